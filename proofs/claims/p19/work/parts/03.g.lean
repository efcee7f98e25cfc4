theorem nv_h {v : av_T} {l : List av_T} (h : ∀ x ∈ v :: l, nv x) : nv v := h v List.mem_cons_self
theorem nv_t {v : av_T} {l : List av_T} (h : ∀ x ∈ v :: l, nv x) : ∀ x ∈ l, nv x := fun x hx => h x (List.mem_cons_of_mem _ hx)
theorem nv_c {v : av_T} {l : List av_T} (h : nv v) (h2 : ∀ x ∈ l, nv x) : ∀ x ∈ v :: l, nv x := List.forall_mem_cons.mpr ⟨h, h2⟩
theorem i64_1 : i64 1 := by unfold i64; omega
def i32b (n : Int) : Bool := decide (-2147483648 ≤ n) && decide (n < 2147483648)
theorem i32b_ok {n : Int} (h : i32b n = true) : i32 n := by
  simp only [i32b, Bool.and_eq_true, decide_eq_true_eq] at h
  exact h
def i64b (n : Int) : Bool := decide (-9223372036854775808 ≤ n) && decide (n < 9223372036854775808)
theorem i64b_ok {n : Int} (h : i64b n = true) : i64 n := by
  simp only [i64b, Bool.and_eq_true, decide_eq_true_eq] at h
  exact h
def i8b (n : Int) : Bool := decide (-128 ≤ n) && decide (n < 128)
def i16b (n : Int) : Bool := decide (-32768 ≤ n) && decide (n < 32768)
theorem i8b_ok {n : Int} (h : i8b n = true) : i32 n := by
  simp only [i8b, Bool.and_eq_true, decide_eq_true_eq] at h
  unfold i32; omega
theorem i16b_ok {n : Int} (h : i16b n = true) : i32 n := by
  simp only [i16b, Bool.and_eq_true, decide_eq_true_eq] at h
  unfold i32; omega
theorem i8b_v {n : Int} (h : i8b n = true) : (Int8.ofInt n).toInt32 = Int32.ofInt n := by
  have h2 := i8b_ok h
  simp only [i8b, Bool.and_eq_true, decide_eq_true_eq] at h
  apply Int32.toInt_inj.mp
  rw [Int8.toInt_toInt32, Int8.toInt_ofInt, i32_tn h2]
  have e : n.bmod 256 = n := Int.bmod_eq_of_le (by omega) (by omega)
  exact e
theorem i16b_v {n : Int} (h : i16b n = true) : (Int16.ofInt n).toInt32 = Int32.ofInt n := by
  have h2 := i16b_ok h
  simp only [i16b, Bool.and_eq_true, decide_eq_true_eq] at h
  apply Int32.toInt_inj.mp
  rw [Int16.toInt_toInt32, Int16.toInt_ofInt, i32_tn h2]
  have e : n.bmod 65536 = n := Int.bmod_eq_of_le (by omega) (by omega)
  exact e
theorem i32_ne0 {y : Int} (h : i32 y) (hy : y ≠ 0) : ¬ Int32.ofInt y = 0 := fun z => hy ((i32_eq h i32_0).mp z)
theorem i64_ne0 {y : Int} (h : i64 y) (hy : y ≠ 0) : ¬ Int64.ofInt y = 0 := fun z => hy ((i64_eq h i64_0).mp z)
theorem w32_div {x y : Int} (hx : i32 x) (hy : i32 y) : Int32.ofInt (w32 (x.tdiv y)) = Int32.ofInt x / Int32.ofInt y := by
  apply i32_e
  rw [Int32.toInt_div, i32_tn hx, i32_tn hy]
  exact w32_bm _
theorem w64_div {x y : Int} (hx : i64 x) (hy : i64 y) : Int64.ofInt (w64 (x.tdiv y)) = Int64.ofInt x / Int64.ofInt y := by
  apply i64_e
  rw [Int64.toInt_div, i64_tn hx, i64_tn hy]
  exact w64_bm _
theorem tmod_in32 {x y : Int} (h : i32 x) : i32 (x.tmod y) := by
  unfold i32 at *
  rcases Int.le_total 0 x with h0 | h0
  · have h1 := Int.tmod_nonneg y h0
    have h2 : x.tmod y ≤ x := by
      have := Int.natAbs_tmod x y
      have h3 : (x.tmod y).natAbs ≤ x.natAbs := by rw [this]; exact Nat.mod_le _ _
      omega
    omega
  · have h3 : (x.tmod y).natAbs ≤ x.natAbs := by rw [Int.natAbs_tmod]; exact Nat.mod_le _ _
    have h4 : x.tmod y ≤ 0 := by
      have := Int.tmod_nonneg (a := -x) y (by omega)
      rw [Int.neg_tmod] at this
      omega
    omega
theorem tmod_in64 {x y : Int} (h : i64 x) : i64 (x.tmod y) := by
  unfold i64 at *
  rcases Int.le_total 0 x with h0 | h0
  · have h1 := Int.tmod_nonneg y h0
    have h3 : (x.tmod y).natAbs ≤ x.natAbs := by rw [Int.natAbs_tmod]; exact Nat.mod_le _ _
    omega
  · have h3 : (x.tmod y).natAbs ≤ x.natAbs := by rw [Int.natAbs_tmod]; exact Nat.mod_le _ _
    have h4 : x.tmod y ≤ 0 := by
      have := Int.tmod_nonneg (a := -x) y (by omega)
      rw [Int.neg_tmod] at this
      omega
    omega
theorem w32_rem {x y : Int} (hx : i32 x) (hy : i32 y) (h0 : y ≠ 0) : Int32.ofInt x - Int32.ofInt x / Int32.ofInt y * Int32.ofInt y = Int32.ofInt (x.tmod y) := by
  apply Int32.toInt_inj.mp
  rw [i32_tn (tmod_in32 hx), Int32.toInt_sub, Int32.toInt_mul, Int32.toInt_div, i32_tn hx, i32_tn hy]
  rw [Int.bmod_mul_bmod, Int.sub_bmod_bmod]
  have e : x - x.tdiv y * y = x.tmod y := by rw [Int.tmod_def, Int.mul_comm]
  rw [e]
  exact (w32_bm _).trans (w32_id (tmod_in32 hx))
theorem w64_rem {x y : Int} (hx : i64 x) (hy : i64 y) (h0 : y ≠ 0) : Int64.ofInt x - Int64.ofInt x / Int64.ofInt y * Int64.ofInt y = Int64.ofInt (x.tmod y) := by
  apply Int64.toInt_inj.mp
  rw [i64_tn (tmod_in64 hx), Int64.toInt_sub, Int64.toInt_mul, Int64.toInt_div, i64_tn hx, i64_tn hy]
  rw [Int.bmod_mul_bmod, Int.sub_bmod_bmod]
  have e : x - x.tdiv y * y = x.tmod y := by rw [Int.tmod_def, Int.mul_comm]
  rw [e]
  exact (w64_bm _).trans (w64_id (tmod_in64 hx))
theorem i64_i32 {x : Int} (h : i32 x) : i64 x := by unfold i32 at h; unfold i64; omega
theorem i2l_v {x : Int} (h : i32 x) : (Int32.ofInt x).toInt64 = Int64.ofInt x := by
  apply Int64.toInt_inj.mp
  rw [Int32.toInt_toInt64, i32_tn h, i64_tn (i64_i32 h)]
theorem l2i_v (x : Int) : (Int64.ofInt x).toInt32 = Int32.ofInt (w32 x) := by
  apply Int32.toInt_inj.mp
  rw [Int64.toInt_toInt32, i64_ti, i32_ti]
  exact (w32_bm _).trans (by unfold w32 w64; omega)
def cmp_I (x y : Int) : Int := if x < y then -1 else if x = y then 0 else 1
theorem cmp_in (x y : Int) : i32 (cmp_I x y) := by
  unfold cmp_I i32
  split
  · omega
  · split <;> omega
theorem cmp_v {x y : Int} (hx : i64 x) (hy : i64 y) : lg_cmp (Int64.ofInt x) (Int64.ofInt y) = Int32.ofInt (cmp_I x y) := by
  unfold lg_cmp cmp_I
  have h1 := i64_lt hx hy
  have h2 := i64_lt hy hx
  have h3 := i64_eq hx hy
  by_cases a : x < y
  · have b : ¬ y < x := by omega
    have d : ¬ x = y := by omega
    simp [h1, h2, h3, a, b, d]
  · by_cases b : x = y
    · subst b; simp
    · have d : y < x := by omega
      simp [h1, h2, h3, a, b, d]
theorem nar_b {x : Int} (h : x = 0 ∨ x = 1) : narrow .boolean (.int (Int32.ofInt x)) = .int (Int32.ofInt x) := by
  rcases h with rfl | rfl <;> rfl
theorem nar_c {x : Int} (h : 0 ≤ x ∧ x < 65536) : narrow .char (.int (Int32.ofInt x)) = .int (Int32.ofInt x) := by
  obtain ⟨k, rfl⟩ := Int.eq_ofNat_of_zero_le h.1
  exact (pk_charN (q := k) (by omega)).1
theorem cv_ref {G : cx_T} (r : Option Nat) : cv G (av_R r) = .null ∨ ∃ a, cv G (av_R r) = .ref a := by
  cases r with
  | none => exact Or.inl rfl
  | some a => exact Or.inr ⟨_, rfl⟩
theorem ro_end {G : cx_T} {s t : State} {H : Heap} {locs : List Loc} (h : ro_OK G s s.heap) (hS : va_S (fr_A G) s.heap H locs) (ht : t.heap = H) (hw : s.WarmedH t.vm) : ro_OK G t t.heap := by
  rw [ht]
  exact ro_to h hS.2.1 hw.alike (fun _ _ _ _ q => q.warm hw)
/-! locals -/
def cat2 : av_T → Bool
  | .inr (.inl _) => true
  | .inr (.inr (.inl _)) => true
  | _ => false
theorem cv_cat {G : cx_T} (v : av_T) : ((cv G v).category == 2) = cat2 v := by
  rcases v with z | z | d | r | k
  · rfl
  · rfl
  · rfl
  · cases r <;> rfl
  · rfl
def lkill (L : List (Option av_T)) (i : Nat) : List (Option av_T) := match i with
  | 0 => L
  | j + 1 => match L[j]? with
    | some (some v) => if cat2 v = true then L.set j none else L
    | _ => L
def lst1 (L : List (Option av_T)) (i : Nat) (v : av_T) : List (Option av_T) := (lkill L i).set i (some v)
def lst2 (L : List (Option av_T)) (i : Nat) (v : av_T) : List (Option av_T) := ((lkill L i).set i (some v)).set (i + 1) none
theorem lkill_len (L : List (Option av_T)) (i : Nat) : (lkill L i).length = L.length := by
  unfold lkill
  split
  · rfl
  · split
    · split
      · simp
      · rfl
    · rfl
theorem lkill_at {L : List (Option av_T)} {i k : Nat} {w : av_T} (h : (lkill L i)[k]? = some (some w)) : L[k]? = some (some w) ∧ (k + 1 = i → cat2 w = false) := by
  unfold lkill at h
  split at h
  · exact ⟨h, fun z => by omega⟩
  · rename_i j
    split at h
    · rename_i v hv
      split at h
      · rename_i h2
        by_cases hk : k = j
        · subst hk
          have hlt := (List.getElem?_eq_some_iff.mp hv).1
          rw [List.getElem?_set_self hlt] at h
          simp at h
        · rw [List.getElem?_set_ne (Ne.symm hk)] at h
          exact ⟨h, fun z => by omega⟩
      · rename_i h2
        refine ⟨h, fun z => ?_⟩
        have : k = j := by omega
        subst this
        rw [hv] at h
        cases h
        simpa using h2
    · rename_i h2
      refine ⟨h, fun z => ?_⟩
      have : k = j := by omega
      subst this
      exact absurd h (h2 w)
def lr_l (G : cx_T) (L : List (Option av_T)) : List (Nat × Value) := (List.range L.length).filterMap fun k => match L[k]? with
  | some (some v) => some (k, cv G v)
  | _ => none
theorem lr_mem {G : cx_T} {L : List (Option av_T)} {q : Nat × Value} : q ∈ lr_l G L ↔ ∃ v, L[q.1]? = some (some v) ∧ q.2 = cv G v := by
  unfold lr_l
  rw [List.mem_filterMap]
  constructor
  · rintro ⟨k, hk, h⟩
    split at h
    · rename_i v hv
      cases h
      exact ⟨v, hv, rfl⟩
    · cases h
  · rintro ⟨v, hv, h⟩
    refine ⟨q.1, List.mem_range.mpr (List.getElem?_eq_some_iff.mp hv).1, ?_⟩
    rw [hv]
    dsimp only
    rw [← h]
theorem lr_h {G : cx_T} {n : Nat} {L : List (Option av_T)} {ls : Array Slot} (h : lr_OK G n L ls) : lv_has ls n (lr_l G L) := by
  refine ⟨h.2.1, h.2.2.1, fun q hq => ?_⟩
  obtain ⟨v, h1, h2⟩ := lr_mem.mp hq
  rw [h2]
  exact (h.2.2.2 _ _ h1).1
theorem lr_k {G : cx_T} {L : List (Option av_T)} {i : Nat} {v : av_T} (h : L[i]? = some (some v)) : ∃ k : Nat, (lr_l G L)[k]? = some (i, cv G v) :=
  List.getElem?_of_mem (lr_mem.mpr ⟨v, h, rfl⟩)
theorem lr_s1 {G : cx_T} {n i : Nat} {L : List (Option av_T)} {v : av_T} {ls ls' : Array Slot} (hL : lr_OK G n L ls) (hi : i < L.length) (hv : nv v) (_hc : cat2 v = false)
    (h : lv_has ls' n ((i, cv G v) :: (lr_l G L).filter (fun q => !(q.1 == i) && !(q.1 + 1 == i && q.2.category == 2)))) : lr_OK G n (lst1 L i v) ls' := by
  refine ⟨by simp [lst1, lkill_len, hL.1], h.1, h.2.1, fun k w hk => ?_⟩
  unfold lst1 at hk
  by_cases hki : k = i
  · subst hki
    rw [List.getElem?_set_self (by rw [lkill_len]; exact hi)] at hk
    cases hk
    exact ⟨h.2.2 _ List.mem_cons_self, hv⟩
  · rw [List.getElem?_set_ne (Ne.symm hki)] at hk
    obtain ⟨h1, h2⟩ := lkill_at hk
    refine ⟨h.2.2 (k, cv G w) (List.mem_cons_of_mem _ (List.mem_filter.mpr ⟨lr_mem.mpr ⟨w, h1, rfl⟩, ?_⟩)), (hL.2.2.2 k w h1).2⟩
    dsimp only
    rw [cv_cat]
    by_cases hk1 : k + 1 = i
    · simp [hki, h2 hk1]
    · simp [hki, hk1]
theorem lr_s2 {G : cx_T} {n i : Nat} {L : List (Option av_T)} {v : av_T} {ls ls' : Array Slot} (hL : lr_OK G n L ls) (hi : i + 1 < L.length) (hv : nv v) (_hc : cat2 v = true)
    (h : lv_has ls' n ((i, cv G v) :: (lr_l G L).filter (fun q => !(q.1 == i) && (!(q.1 == i + 1) && !(q.1 + 1 == i && q.2.category == 2))))) : lr_OK G n (lst2 L i v) ls' := by
  refine ⟨by simp [lst2, lkill_len, hL.1], h.1, h.2.1, fun k w hk => ?_⟩
  unfold lst2 at hk
  by_cases hki1 : k = i + 1
  · subst hki1
    rw [List.getElem?_set_self (by simp [lkill_len]; omega)] at hk
    simp at hk
  · rw [List.getElem?_set_ne (Ne.symm hki1)] at hk
    by_cases hki : k = i
    · subst hki
      rw [List.getElem?_set_self (by rw [lkill_len]; omega)] at hk
      cases hk
      exact ⟨h.2.2 _ List.mem_cons_self, hv⟩
    · rw [List.getElem?_set_ne (Ne.symm hki)] at hk
      obtain ⟨h1, h2⟩ := lkill_at hk
      refine ⟨h.2.2 (k, cv G w) (List.mem_cons_of_mem _ (List.mem_filter.mpr ⟨lr_mem.mpr ⟨w, h1, rfl⟩, ?_⟩)), (hL.2.2.2 k w h1).2⟩
      dsimp only
      rw [cv_cat]
      by_cases hk1 : k + 1 = i
      · simp [hki, hki1, h2 hk1]
      · simp [hki, hki1, hk1]
section AWR
variable {G : cx_T} {R : Room} {M : mr_T} {cu su pc : Nat} {L : List (Option av_T)} {st : List av_T} {h : ah_T} {Q : Option av_T → ah_T → Prop}
theorem A_iconst {n : Int} (hd : decode M.2.1 pc = .ok (.iconst n, 1)) (hr : i32b n = true) (k : aw G R M cu su (pc + 1) L (av_I n :: st) h Q) : aw G R M cu su pc L (st) h Q := by
  intro p e s m args below meth c H locs ls S hH hO hS hb hL hn
  refine lv_iconst (v := Int32.ofInt n) S.1 S.2.1 hd rfl ?_
  exact k p e s m args below meth c H locs ls S hH hO hS hb hL (nv_c (i32b_ok hr) hn)
theorem A_bipush {n : Int} (hd : decode M.2.1 pc = .ok (.bipush n, 2)) (hr : i8b n = true) (k : aw G R M cu su (pc + 2) L (av_I n :: st) h Q) : aw G R M cu su pc L (st) h Q := by
  intro p e s m args below meth c H locs ls S hH hO hS hb hL hn
  refine lv_bipush (v := Int32.ofInt n) S.1 S.2.1 hd (i8b_v hr) ?_
  exact k p e s m args below meth c H locs ls S hH hO hS hb hL (nv_c (i8b_ok hr) hn)
theorem A_sipush {n : Int} (hd : decode M.2.1 pc = .ok (.sipush n, 3)) (hr : i16b n = true) (k : aw G R M cu su (pc + 3) L (av_I n :: st) h Q) : aw G R M cu su pc L (st) h Q := by
  intro p e s m args below meth c H locs ls S hH hO hS hb hL hn
  refine lv_sipush (v := Int32.ofInt n) S.1 S.2.1 hd (i16b_v hr) ?_
  exact k p e s m args below meth c H locs ls S hH hO hS hb hL (nv_c (i16b_ok hr) hn)
theorem A_lconst_0  (hd : decode M.2.1 pc = .ok (.lconst 0, 1)) (k : aw G R M cu su (pc + 1) L (av_L 0 :: st) h Q) : aw G R M cu su pc L (st) h Q := by
  intro p e s m args below meth c H locs ls S hH hO hS hb hL hn
  refine lv_lconst (v := Int64.ofInt 0) S.1 S.2.1 hd rfl ?_
  exact k p e s m args below meth c H locs ls S hH hO hS hb hL (nv_c i64_0 hn)
theorem A_lconst_1  (hd : decode M.2.1 pc = .ok (.lconst 1, 1)) (k : aw G R M cu su (pc + 1) L (av_L 1 :: st) h Q) : aw G R M cu su pc L (st) h Q := by
  intro p e s m args below meth c H locs ls S hH hO hS hb hL hn
  refine lv_lconst (v := Int64.ofInt 1) S.1 S.2.1 hd rfl ?_
  exact k p e s m args below meth c H locs ls S hH hO hS hb hL (nv_c i64_1 hn)
theorem A_dconst_0  (hd : decode M.2.1 pc = .ok (.dconst 0, 1)) (k : aw G R M cu su (pc + 1) L (av_D FP.dconst0 :: st) h Q) : aw G R M cu su pc L (st) h Q := by
  intro p e s m args below meth c H locs ls S hH hO hS hb hL hn
  refine lv_dconst0 S.1 S.2.1 hd ?_
  exact k p e s m args below meth c H locs ls S hH hO hS hb hL (nv_c trivial hn)
theorem A_dconst_1  (hd : decode M.2.1 pc = .ok (.dconst 1, 1)) (k : aw G R M cu su (pc + 1) L (av_D FP.dconst1 :: st) h Q) : aw G R M cu su pc L (st) h Q := by
  intro p e s m args below meth c H locs ls S hH hO hS hb hL hn
  refine lv_dconst1 S.1 S.2.1 hd ?_
  exact k p e s m args below meth c H locs ls S hH hO hS hb hL (nv_c trivial hn)
theorem A_null  (hd : decode M.2.1 pc = .ok (.aconst_null, 1)) (k : aw G R M cu su (pc + 1) L (av_R none :: st) h Q) : aw G R M cu su pc L (st) h Q := by
  intro p e s m args below meth c H locs ls S hH hO hS hb hL hn
  refine lv_null S.1 S.2.1 hd ?_
  exact k p e s m args below meth c H locs ls S hH hO hS hb hL (nv_c trivial hn)
theorem A_ldc {idx : Nat} {z : Int} (hd : decode M.2.1 pc = .ok (.ldc idx, 2)) (hw : Cond.constant M.1.cls idx (Int32.ofInt z) ∈ gw) (hr : i32b z = true) (k : aw G R M cu su (pc + 2) L (av_I z :: st) h Q) : aw G R M cu su pc L (st) h Q := by
  intro p e s m args below meth c H locs ls S hH hO hS hb hL hn
  refine lv_ldc S.1 S.2.1 S.2.2.2.1 (S.2.2.2.2.1 _ hw) hd ?_
  exact k p e s m args below meth c H locs ls S hH hO hS hb hL (nv_c (i32b_ok hr) hn)
theorem A_ldcw {idx : Nat} {z : Int} (hd : decode M.2.1 pc = .ok (.ldc_w idx, 3)) (hw : Cond.constant M.1.cls idx (Int32.ofInt z) ∈ gw) (hr : i32b z = true) (k : aw G R M cu su (pc + 3) L (av_I z :: st) h Q) : aw G R M cu su pc L (st) h Q := by
  intro p e s m args below meth c H locs ls S hH hO hS hb hL hn
  refine lv_ldcw S.1 S.2.1 S.2.2.2.1 (S.2.2.2.2.1 _ hw) hd ?_
  exact k p e s m args below meth c H locs ls S hH hO hS hb hL (nv_c (i32b_ok hr) hn)
theorem A_ldc2 {idx : Nat} {z : Int} (hd : decode M.2.1 pc = .ok (.ldc2_w idx, 3)) (hw : Cond.constantLong M.1.cls idx (Int64.ofInt z) ∈ gw) (hr : i64b z = true) (k : aw G R M cu su (pc + 3) L (av_L z :: st) h Q) : aw G R M cu su pc L (st) h Q := by
  intro p e s m args below meth c H locs ls S hH hO hS hb hL hn
  refine lv_ldc2 S.1 S.2.1 S.2.2.2.1 (S.2.2.2.2.1 _ hw) hd ?_
  exact k p e s m args below meth c H locs ls S hH hO hS hb hL (nv_c (i64b_ok hr) hn)
theorem A_ldc2d {idx : Nat} {z : UInt64} (hd : decode M.2.1 pc = .ok (.ldc2_w idx, 3)) (hw : Cond.constantDouble M.1.cls idx z ∈ gw) (k : aw G R M cu su (pc + 3) L (av_D z :: st) h Q) : aw G R M cu su pc L (st) h Q := by
  intro p e s m args below meth c H locs ls S hH hO hS hb hL hn
  refine lv_ldc2d S.1 S.2.1 S.2.2.2.1 (S.2.2.2.2.1 _ hw) hd ?_
  exact k p e s m args below meth c H locs ls S hH hO hS hb hL (nv_c trivial hn)
theorem A_iload_n {n : Fin 4} {x : Int} (i : Nat) (hd : decode M.2.1 pc = .ok (.iload_n n, 1)) (hi : (n : Nat) = i) (hl : L[i]? = some (some (av_I x))) (k : aw G R M cu su (pc + 1) L (av_I x :: st) h Q) : aw G R M cu su pc L (st) h Q := by
  intro p e s m args below meth c H locs ls S hH hO hS hb hL hn
  refine lv_iload_n S.1 S.2.1 hd hi (hL.2.2.2 i _ hl).1 ?_
  exact k p e s m args below meth c H locs ls S hH hO hS hb hL (nv_c (hL.2.2.2 i _ hl).2 hn)
theorem A_iload {i : Nat} {x : Int} (hd : decode M.2.1 pc = .ok (.iload i, 2)) (hl : L[i]? = some (some (av_I x))) (k : aw G R M cu su (pc + 2) L (av_I x :: st) h Q) : aw G R M cu su pc L (st) h Q := by
  intro p e s m args below meth c H locs ls S hH hO hS hb hL hn
  refine lv_iload S.1 S.2.1 hd (hL.2.2.2 i _ hl).1 ?_
  exact k p e s m args below meth c H locs ls S hH hO hS hb hL (nv_c (hL.2.2.2 i _ hl).2 hn)
theorem A_lload_n {n : Fin 4} {x : Int} (i : Nat) (hd : decode M.2.1 pc = .ok (.lload_n n, 1)) (hi : (n : Nat) = i) (hl : L[i]? = some (some (av_L x))) (k : aw G R M cu su (pc + 1) L (av_L x :: st) h Q) : aw G R M cu su pc L (st) h Q := by
  intro p e s m args below meth c H locs ls S hH hO hS hb hL hn
  refine lv_lload_n S.1 S.2.1 hd hi (hL.2.2.2 i _ hl).1 ?_
  exact k p e s m args below meth c H locs ls S hH hO hS hb hL (nv_c (hL.2.2.2 i _ hl).2 hn)
theorem A_lload {i : Nat} {x : Int} (hd : decode M.2.1 pc = .ok (.lload i, 2)) (hl : L[i]? = some (some (av_L x))) (k : aw G R M cu su (pc + 2) L (av_L x :: st) h Q) : aw G R M cu su pc L (st) h Q := by
  intro p e s m args below meth c H locs ls S hH hO hS hb hL hn
  refine lv_lload S.1 S.2.1 hd (hL.2.2.2 i _ hl).1 ?_
  exact k p e s m args below meth c H locs ls S hH hO hS hb hL (nv_c (hL.2.2.2 i _ hl).2 hn)
theorem A_dload_n {n : Fin 4} {x : UInt64} (i : Nat) (hd : decode M.2.1 pc = .ok (.dload_n n, 1)) (hi : (n : Nat) = i) (hl : L[i]? = some (some (av_D x))) (k : aw G R M cu su (pc + 1) L (av_D x :: st) h Q) : aw G R M cu su pc L (st) h Q := by
  intro p e s m args below meth c H locs ls S hH hO hS hb hL hn
  refine lv_dload_n S.1 S.2.1 hd hi (hL.2.2.2 i _ hl).1 ?_
  exact k p e s m args below meth c H locs ls S hH hO hS hb hL (nv_c (hL.2.2.2 i _ hl).2 hn)
theorem A_dload {i : Nat} {x : UInt64} (hd : decode M.2.1 pc = .ok (.dload i, 2)) (hl : L[i]? = some (some (av_D x))) (k : aw G R M cu su (pc + 2) L (av_D x :: st) h Q) : aw G R M cu su pc L (st) h Q := by
  intro p e s m args below meth c H locs ls S hH hO hS hb hL hn
  refine lv_dload S.1 S.2.1 hd (hL.2.2.2 i _ hl).1 ?_
  exact k p e s m args below meth c H locs ls S hH hO hS hb hL (nv_c (hL.2.2.2 i _ hl).2 hn)
theorem A_aload_n {n : Fin 4} (i : Nat) {r : Option Nat} (hd : decode M.2.1 pc = .ok (.aload_n n, 1)) (hi : (n : Nat) = i) (hl : L[i]? = some (some (av_R r))) (k : aw G R M cu su (pc + 1) L (av_R r :: st) h Q) : aw G R M cu su pc L st h Q := by
  intro p e s m args below meth c H locs ls S hH hO hS hb hL hn
  have k2 := k p e s m args below meth c H locs ls S hH hO hS hb hL (nv_c trivial hn)
  have hv := (hL.2.2.2 i _ hl).1
  cases r with
  | none => exact lv_aload_nN S.1 S.2.1 hd hi hv k2
  | some a => exact lv_aload_n S.1 S.2.1 hd hi hv k2
theorem A_aload_nS {n : Fin 4} (i : Nat) {r : Nat} (hd : decode M.2.1 pc = .ok (.aload_n n, 1)) (hi : (n : Nat) = i) (hl : L[i]? = some (some (av_S r))) (k : aw G R M cu su (pc + 1) L (av_S r :: st) h Q) : aw G R M cu su pc L st h Q := by
  intro p e s m args below meth c H locs ls S hH hO hS hb hL hn
  exact lv_aload_n S.1 S.2.1 hd hi (hL.2.2.2 i _ hl).1 (k p e s m args below meth c H locs ls S hH hO hS hb hL (nv_c trivial hn))
theorem A_aload {i : Nat} {r : Option Nat} (hd : decode M.2.1 pc = .ok (.aload i, 2)) (hl : L[i]? = some (some (av_R r))) (k : aw G R M cu su (pc + 2) L (av_R r :: st) h Q) : aw G R M cu su pc L st h Q := by
  intro p e s m args below meth c H locs ls S hH hO hS hb hL hn
  have k2 := k p e s m args below meth c H locs ls S hH hO hS hb hL (nv_c trivial hn)
  have hv := (hL.2.2.2 i _ hl).1
  cases r with
  | none => exact lv_aloadN S.1 S.2.1 hd hv k2
  | some a => exact lv_aload S.1 S.2.1 hd hv k2
theorem A_aloadS {i : Nat} {r : Nat} (hd : decode M.2.1 pc = .ok (.aload i, 2)) (hl : L[i]? = some (some (av_S r))) (k : aw G R M cu su (pc + 2) L (av_S r :: st) h Q) : aw G R M cu su pc L st h Q := by
  intro p e s m args below meth c H locs ls S hH hO hS hb hL hn
  exact lv_aload S.1 S.2.1 hd (hL.2.2.2 i _ hl).1 (k p e s m args below meth c H locs ls S hH hO hS hb hL (nv_c trivial hn))
theorem A_istore_n {n : Fin 4} (i : Nat) {x : Int} {L' : List (Option av_T)} (hd : decode M.2.1 pc = .ok (.istore_n n, 1)) (hi : (n : Nat) = i) (hb2 : i < L.length) (hl : lst1 L i (av_I x) = L') (k : aw G R M cu su (pc + 1) L' st h Q) : aw G R M cu su pc L (av_I x :: st) h Q := by
  intro p e s m args below meth c H locs ls S hH hO hS hb hL hn
  subst hl
  exact lv_istore_n S.1 S.2.1 hd hi (lr_h hL) (by rw [← hL.1]; exact hb2) rfl (fun ls' hl' => k p e s m args below meth c H locs ls' S hH hO hS hb (lr_s1 hL hb2 (nv_h hn) rfl hl') (nv_t hn))
theorem A_istore {i : Nat} {x : Int} {L' : List (Option av_T)} (hd : decode M.2.1 pc = .ok (.istore i, 2)) (hb2 : i < L.length) (hl : lst1 L i (av_I x) = L') (k : aw G R M cu su (pc + 2) L' st h Q) : aw G R M cu su pc L (av_I x :: st) h Q := by
  intro p e s m args below meth c H locs ls S hH hO hS hb hL hn
  subst hl
  exact lv_istore S.1 S.2.1 hd (lr_h hL) (by rw [← hL.1]; exact hb2) rfl (fun ls' hl' => k p e s m args below meth c H locs ls' S hH hO hS hb (lr_s1 hL hb2 (nv_h hn) rfl hl') (nv_t hn))
theorem A_lstore_n {n : Fin 4} (i : Nat) {x : Int} {L' : List (Option av_T)} (hd : decode M.2.1 pc = .ok (.lstore_n n, 1)) (hi : (n : Nat) = i) (hb2 : i + 1 < L.length) (hl : lst2 L i (av_L x) = L') (k : aw G R M cu su (pc + 1) L' st h Q) : aw G R M cu su pc L (av_L x :: st) h Q := by
  intro p e s m args below meth c H locs ls S hH hO hS hb hL hn
  subst hl
  exact lv_lstore_n S.1 S.2.1 hd hi (lr_h hL) (by rw [← hL.1]; exact hb2) rfl (fun ls' hl' => k p e s m args below meth c H locs ls' S hH hO hS hb (lr_s2 hL hb2 (nv_h hn) rfl hl') (nv_t hn))
theorem A_lstore {i : Nat} {x : Int} {L' : List (Option av_T)} (hd : decode M.2.1 pc = .ok (.lstore i, 2)) (hb2 : i + 1 < L.length) (hl : lst2 L i (av_L x) = L') (k : aw G R M cu su (pc + 2) L' st h Q) : aw G R M cu su pc L (av_L x :: st) h Q := by
  intro p e s m args below meth c H locs ls S hH hO hS hb hL hn
  subst hl
  exact lv_lstore S.1 S.2.1 hd (lr_h hL) (by rw [← hL.1]; exact hb2) rfl (fun ls' hl' => k p e s m args below meth c H locs ls' S hH hO hS hb (lr_s2 hL hb2 (nv_h hn) rfl hl') (nv_t hn))
theorem A_dstore_n {n : Fin 4} (i : Nat) {x : UInt64} {L' : List (Option av_T)} (hd : decode M.2.1 pc = .ok (.dstore_n n, 1)) (hi : (n : Nat) = i) (hb2 : i + 1 < L.length) (hl : lst2 L i (av_D x) = L') (k : aw G R M cu su (pc + 1) L' st h Q) : aw G R M cu su pc L (av_D x :: st) h Q := by
  intro p e s m args below meth c H locs ls S hH hO hS hb hL hn
  subst hl
  exact lv_dstore_n S.1 S.2.1 hd hi (lr_h hL) (by rw [← hL.1]; exact hb2) rfl (fun ls' hl' => k p e s m args below meth c H locs ls' S hH hO hS hb (lr_s2 hL hb2 (nv_h hn) rfl hl') (nv_t hn))
theorem A_dstore {i : Nat} {x : UInt64} {L' : List (Option av_T)} (hd : decode M.2.1 pc = .ok (.dstore i, 2)) (hb2 : i + 1 < L.length) (hl : lst2 L i (av_D x) = L') (k : aw G R M cu su (pc + 2) L' st h Q) : aw G R M cu su pc L (av_D x :: st) h Q := by
  intro p e s m args below meth c H locs ls S hH hO hS hb hL hn
  subst hl
  exact lv_dstore S.1 S.2.1 hd (lr_h hL) (by rw [← hL.1]; exact hb2) rfl (fun ls' hl' => k p e s m args below meth c H locs ls' S hH hO hS hb (lr_s2 hL hb2 (nv_h hn) rfl hl') (nv_t hn))
theorem A_astore_n {n : Fin 4} (i : Nat) {r : Option Nat} {L' : List (Option av_T)} (hd : decode M.2.1 pc = .ok (.astore_n n, 1)) (hi : (n : Nat) = i) (hb2 : i < L.length) (hl : lst1 L i (av_R r) = L') (k : aw G R M cu su (pc + 1) L' st h Q) : aw G R M cu su pc L (av_R r :: st) h Q := by
  intro p e s m args below meth c H locs ls S hH hO hS hb hL hn
  subst hl
  cases r with
  | none => exact lv_astore_nN S.1 S.2.1 hd hi (lr_h hL) (by rw [← hL.1]; exact hb2) rfl (fun ls' hl' => k p e s m args below meth c H locs ls' S hH hO hS hb (lr_s1 hL hb2 (nv_h hn) rfl hl') (nv_t hn))
  | some a => exact lv_astore_n S.1 S.2.1 hd hi (lr_h hL) (by rw [← hL.1]; exact hb2) rfl (fun ls' hl' => k p e s m args below meth c H locs ls' S hH hO hS hb (lr_s1 hL hb2 (nv_h hn) rfl hl') (nv_t hn))
theorem A_astore {i : Nat} {r : Option Nat} {L' : List (Option av_T)} (hd : decode M.2.1 pc = .ok (.astore i, 2)) (hb2 : i < L.length) (hl : lst1 L i (av_R r) = L') (k : aw G R M cu su (pc + 2) L' st h Q) : aw G R M cu su pc L (av_R r :: st) h Q := by
  intro p e s m args below meth c H locs ls S hH hO hS hb hL hn
  subst hl
  cases r with
  | none => exact lv_astoreN S.1 S.2.1 hd (lr_h hL) (by rw [← hL.1]; exact hb2) rfl (fun ls' hl' => k p e s m args below meth c H locs ls' S hH hO hS hb (lr_s1 hL hb2 (nv_h hn) rfl hl') (nv_t hn))
  | some a => exact lv_astore S.1 S.2.1 hd (lr_h hL) (by rw [← hL.1]; exact hb2) rfl (fun ls' hl' => k p e s m args below meth c H locs ls' S hH hO hS hb (lr_s1 hL hb2 (nv_h hn) rfl hl') (nv_t hn))
theorem A_astore_nS {n : Fin 4} (i : Nat) {r : Nat} {L' : List (Option av_T)} (hd : decode M.2.1 pc = .ok (.astore_n n, 1)) (hi : (n : Nat) = i) (hb2 : i < L.length) (hl : lst1 L i (av_S r) = L') (k : aw G R M cu su (pc + 1) L' st h Q) : aw G R M cu su pc L (av_S r :: st) h Q := by
  intro p e s m args below meth c H locs ls S hH hO hS hb hL hn
  subst hl
  exact lv_astore_n S.1 S.2.1 hd hi (lr_h hL) (by rw [← hL.1]; exact hb2) rfl (fun ls' hl' => k p e s m args below meth c H locs ls' S hH hO hS hb (lr_s1 hL hb2 (nv_h hn) rfl hl') (nv_t hn))
theorem A_astoreS {i : Nat} {r : Nat} {L' : List (Option av_T)} (hd : decode M.2.1 pc = .ok (.astore i, 2)) (hb2 : i < L.length) (hl : lst1 L i (av_S r) = L') (k : aw G R M cu su (pc + 2) L' st h Q) : aw G R M cu su pc L (av_S r :: st) h Q := by
  intro p e s m args below meth c H locs ls S hH hO hS hb hL hn
  subst hl
  exact lv_astore S.1 S.2.1 hd (lr_h hL) (by rw [← hL.1]; exact hb2) rfl (fun ls' hl' => k p e s m args below meth c H locs ls' S hH hO hS hb (lr_s1 hL hb2 (nv_h hn) rfl hl') (nv_t hn))
theorem A_iinc {i : Nat} {n x : Int} {L' : List (Option av_T)} (hd : decode M.2.1 pc = .ok (.iinc i n, 3)) (hx : L[i]? = some (some (av_I x))) (hl : lst1 L i (av_I (w32 (x + n))) = L') (k : aw G R M cu su (pc + 3) L' st h Q) : aw G R M cu su pc L st h Q := by
  intro p e s m args below meth c H locs ls S hH hO hS hb hL hn
  subst hl
  have hi : i < L.length := (List.getElem?_eq_some_iff.mp hx).1
  obtain ⟨kk, hk⟩ := lr_k (G := G) hx
  exact lv_iinc S.1 S.2.1 hd (lr_h hL) hk (w32_add x n).symm (by rw [← hL.1]; exact hi) rfl (fun ls' hl' => k p e s m args below meth c H locs ls' S hH hO hS hb (lr_s1 (v := av_I (w32 (x + n))) hL hi (w32_in _) rfl hl') hn)
theorem A_iadd {x y : Int} (hd : decode M.2.1 pc = .ok (.iadd, 1)) (k : aw G R M cu su (pc + 1) L (av_I (w32 (x + y)) :: st) h Q) : aw G R M cu su pc L (av_I y :: av_I x :: st) h Q := by
  intro p e s m args below meth c H locs ls S hH hO hS hb hL hn
  refine lv_iadd S.1 S.2.1 hd ?_
  rw [← w32_add x y]
  exact k p e s m args below meth c H locs ls S hH hO hS hb hL (nv_c (w32_in _) (nv_t (nv_t hn)))
theorem A_isub {x y : Int} (hd : decode M.2.1 pc = .ok (.isub, 1)) (k : aw G R M cu su (pc + 1) L (av_I (w32 (x - y)) :: st) h Q) : aw G R M cu su pc L (av_I y :: av_I x :: st) h Q := by
  intro p e s m args below meth c H locs ls S hH hO hS hb hL hn
  refine lv_isub S.1 S.2.1 hd ?_
  rw [← w32_sub x y]
  exact k p e s m args below meth c H locs ls S hH hO hS hb hL (nv_c (w32_in _) (nv_t (nv_t hn)))
theorem A_imul {x y : Int} (hd : decode M.2.1 pc = .ok (.imul, 1)) (k : aw G R M cu su (pc + 1) L (av_I (w32 (x * y)) :: st) h Q) : aw G R M cu su pc L (av_I y :: av_I x :: st) h Q := by
  intro p e s m args below meth c H locs ls S hH hO hS hb hL hn
  refine lv_imul S.1 S.2.1 hd ?_
  rw [← w32_mul (nv_h (nv_t hn)) (nv_h hn)]
  exact k p e s m args below meth c H locs ls S hH hO hS hb hL (nv_c (w32_in _) (nv_t (nv_t hn)))
theorem A_idiv {x y : Int} (hd : decode M.2.1 pc = .ok (.idiv, 1)) (hy : y ≠ 0) (k : aw G R M cu su (pc + 1) L (av_I (w32 (x.tdiv y)) :: st) h Q) : aw G R M cu su pc L (av_I y :: av_I x :: st) h Q := by
  intro p e s m args below meth c H locs ls S hH hO hS hb hL hn
  refine lv_idiv S.1 S.2.1 hd (i32_ne0 (nv_h hn) hy) ?_
  rw [← w32_div (nv_h (nv_t hn)) (nv_h hn)]
  exact k p e s m args below meth c H locs ls S hH hO hS hb hL (nv_c (w32_in _) (nv_t (nv_t hn)))
theorem A_irem {x y : Int} (hd : decode M.2.1 pc = .ok (.irem, 1)) (hy : y ≠ 0) (k : aw G R M cu su (pc + 1) L (av_I (x.tmod y) :: st) h Q) : aw G R M cu su pc L (av_I y :: av_I x :: st) h Q := by
  intro p e s m args below meth c H locs ls S hH hO hS hb hL hn
  refine lv_irem S.1 S.2.1 hd (i32_ne0 (nv_h hn) hy) ?_
  rw [w32_rem (nv_h (nv_t hn)) (nv_h hn) hy]
  exact k p e s m args below meth c H locs ls S hH hO hS hb hL (nv_c (tmod_in32 (nv_h (nv_t hn))) (nv_t (nv_t hn)))
theorem A_ineg {x : Int} (hd : decode M.2.1 pc = .ok (.ineg, 1)) (k : aw G R M cu su (pc + 1) L (av_I (w32 (-x)) :: st) h Q) : aw G R M cu su pc L (av_I x :: st) h Q := by
  intro p e s m args below meth c H locs ls S hH hO hS hb hL hn
  refine lv_ineg S.1 S.2.1 hd ?_
  rw [← w32_neg x]
  exact k p e s m args below meth c H locs ls S hH hO hS hb hL (nv_c (w32_in _) (nv_t hn))
theorem A_iand {x y : Int} (hd : decode M.2.1 pc = .ok (.iand, 1)) (k : aw G R M cu su (pc + 1) L (av_I ((Int32.ofInt x &&& Int32.ofInt y).toInt) :: st) h Q) : aw G R M cu su pc L (av_I y :: av_I x :: st) h Q := by
  intro p e s m args below meth c H locs ls S hH hO hS hb hL hn
  refine lv_iand S.1 S.2.1 hd ?_
  rw [← i32_rt (Int32.ofInt x &&& Int32.ofInt y)]
  exact k p e s m args below meth c H locs ls S hH hO hS hb hL (nv_c (i32_of _) (nv_t (nv_t hn)))
theorem A_ior {x y : Int} (hd : decode M.2.1 pc = .ok (.ior, 1)) (k : aw G R M cu su (pc + 1) L (av_I ((Int32.ofInt x ||| Int32.ofInt y).toInt) :: st) h Q) : aw G R M cu su pc L (av_I y :: av_I x :: st) h Q := by
  intro p e s m args below meth c H locs ls S hH hO hS hb hL hn
  refine lv_ior S.1 S.2.1 hd ?_
  rw [← i32_rt (Int32.ofInt x ||| Int32.ofInt y)]
  exact k p e s m args below meth c H locs ls S hH hO hS hb hL (nv_c (i32_of _) (nv_t (nv_t hn)))
theorem A_ixor {x y : Int} (hd : decode M.2.1 pc = .ok (.ixor, 1)) (k : aw G R M cu su (pc + 1) L (av_I ((Int32.ofInt x ^^^ Int32.ofInt y).toInt) :: st) h Q) : aw G R M cu su pc L (av_I y :: av_I x :: st) h Q := by
  intro p e s m args below meth c H locs ls S hH hO hS hb hL hn
  refine lv_ixor S.1 S.2.1 hd ?_
  rw [← i32_rt (Int32.ofInt x ^^^ Int32.ofInt y)]
  exact k p e s m args below meth c H locs ls S hH hO hS hb hL (nv_c (i32_of _) (nv_t (nv_t hn)))
theorem A_ishl {x y : Int} (hd : decode M.2.1 pc = .ok (.ishl, 1)) (k : aw G R M cu su (pc + 1) L (av_I ((Int32.ofInt x <<< (Int32.ofInt y &&& 31)).toInt) :: st) h Q) : aw G R M cu su pc L (av_I y :: av_I x :: st) h Q := by
  intro p e s m args below meth c H locs ls S hH hO hS hb hL hn
  refine lv_ishl S.1 S.2.1 hd ?_
  rw [← i32_rt (Int32.ofInt x <<< (Int32.ofInt y &&& 31))]
  exact k p e s m args below meth c H locs ls S hH hO hS hb hL (nv_c (i32_of _) (nv_t (nv_t hn)))
theorem A_ishr {x y : Int} (hd : decode M.2.1 pc = .ok (.ishr, 1)) (k : aw G R M cu su (pc + 1) L (av_I ((Int32.ofInt x >>> (Int32.ofInt y &&& 31)).toInt) :: st) h Q) : aw G R M cu su pc L (av_I y :: av_I x :: st) h Q := by
  intro p e s m args below meth c H locs ls S hH hO hS hb hL hn
  refine lv_ishr S.1 S.2.1 hd ?_
  rw [← i32_rt (Int32.ofInt x >>> (Int32.ofInt y &&& 31))]
  exact k p e s m args below meth c H locs ls S hH hO hS hb hL (nv_c (i32_of _) (nv_t (nv_t hn)))
theorem A_iushr {x y : Int} (hd : decode M.2.1 pc = .ok (.iushr, 1)) (k : aw G R M cu su (pc + 1) L (av_I (((Int32.ofInt x).toUInt32 >>> ((Int32.ofInt y).toUInt32 &&& Int32.toUInt32 31)).toInt32.toInt) :: st) h Q) : aw G R M cu su pc L (av_I y :: av_I x :: st) h Q := by
  intro p e s m args below meth c H locs ls S hH hO hS hb hL hn
  refine lv_iushr S.1 S.2.1 hd (i32_rt _).symm ?_
  exact k p e s m args below meth c H locs ls S hH hO hS hb hL (nv_c (i32_of _) (nv_t (nv_t hn)))
theorem A_i2l {x : Int} (hd : decode M.2.1 pc = .ok (.i2l, 1)) (k : aw G R M cu su (pc + 1) L (av_L x :: st) h Q) : aw G R M cu su pc L (av_I x :: st) h Q := by
  intro p e s m args below meth c H locs ls S hH hO hS hb hL hn
  refine lv_i2l S.1 S.2.1 hd (i2l_v (nv_h hn)) ?_
  exact k p e s m args below meth c H locs ls S hH hO hS hb hL (nv_c (i64_i32 (nv_h hn)) (nv_t hn))
theorem A_l2i {x : Int} (hd : decode M.2.1 pc = .ok (.l2i, 1)) (k : aw G R M cu su (pc + 1) L (av_I (w32 x) :: st) h Q) : aw G R M cu su pc L (av_L x :: st) h Q := by
  intro p e s m args below meth c H locs ls S hH hO hS hb hL hn
  refine lv_l2i S.1 S.2.1 hd (l2i_v x) ?_
  exact k p e s m args below meth c H locs ls S hH hO hS hb hL (nv_c (w32_in _) (nv_t hn))
theorem A_i2c {x : Int} (hd : decode M.2.1 pc = .ok (.i2c, 1)) (k : aw G R M cu su (pc + 1) L (av_I ((((Int32.ofInt x).toUInt32 % 65536).toInt32).toInt) :: st) h Q) : aw G R M cu su pc L (av_I x :: st) h Q := by
  intro p e s m args below meth c H locs ls S hH hO hS hb hL hn
  refine lv_i2c S.1 S.2.1 hd (i32_rt _).symm ?_
  exact k p e s m args below meth c H locs ls S hH hO hS hb hL (nv_c (i32_of _) (nv_t hn))
theorem A_ladd {x y : Int} (hd : decode M.2.1 pc = .ok (.ladd, 1)) (k : aw G R M cu su (pc + 1) L (av_L (w64 (x + y)) :: st) h Q) : aw G R M cu su pc L (av_L y :: av_L x :: st) h Q := by
  intro p e s m args below meth c H locs ls S hH hO hS hb hL hn
  refine lv_ladd S.1 S.2.1 hd ?_
  rw [← w64_add x y]
  exact k p e s m args below meth c H locs ls S hH hO hS hb hL (nv_c (w64_in _) (nv_t (nv_t hn)))
theorem A_lsub {x y : Int} (hd : decode M.2.1 pc = .ok (.lsub, 1)) (k : aw G R M cu su (pc + 1) L (av_L (w64 (x - y)) :: st) h Q) : aw G R M cu su pc L (av_L y :: av_L x :: st) h Q := by
  intro p e s m args below meth c H locs ls S hH hO hS hb hL hn
  refine lv_lsub S.1 S.2.1 hd ?_
  rw [← w64_sub x y]
  exact k p e s m args below meth c H locs ls S hH hO hS hb hL (nv_c (w64_in _) (nv_t (nv_t hn)))
theorem A_lmul {x y : Int} (hd : decode M.2.1 pc = .ok (.lmul, 1)) (k : aw G R M cu su (pc + 1) L (av_L (w64 (x * y)) :: st) h Q) : aw G R M cu su pc L (av_L y :: av_L x :: st) h Q := by
  intro p e s m args below meth c H locs ls S hH hO hS hb hL hn
  refine lv_lmul S.1 S.2.1 hd ?_
  rw [← w64_mul (nv_h (nv_t hn)) (nv_h hn)]
  exact k p e s m args below meth c H locs ls S hH hO hS hb hL (nv_c (w64_in _) (nv_t (nv_t hn)))
theorem A_ldiv {x y : Int} (hd : decode M.2.1 pc = .ok (.ldiv, 1)) (hy : y ≠ 0) (k : aw G R M cu su (pc + 1) L (av_L (w64 (x.tdiv y)) :: st) h Q) : aw G R M cu su pc L (av_L y :: av_L x :: st) h Q := by
  intro p e s m args below meth c H locs ls S hH hO hS hb hL hn
  refine lv_ldiv S.1 S.2.1 hd (i64_ne0 (nv_h hn) hy) ?_
  rw [← w64_div (nv_h (nv_t hn)) (nv_h hn)]
  exact k p e s m args below meth c H locs ls S hH hO hS hb hL (nv_c (w64_in _) (nv_t (nv_t hn)))
theorem A_lrem {x y : Int} (hd : decode M.2.1 pc = .ok (.lrem, 1)) (hy : y ≠ 0) (k : aw G R M cu su (pc + 1) L (av_L (x.tmod y) :: st) h Q) : aw G R M cu su pc L (av_L y :: av_L x :: st) h Q := by
  intro p e s m args below meth c H locs ls S hH hO hS hb hL hn
  refine lv_lrem S.1 S.2.1 hd (i64_ne0 (nv_h hn) hy) ?_
  rw [w64_rem (nv_h (nv_t hn)) (nv_h hn) hy]
  exact k p e s m args below meth c H locs ls S hH hO hS hb hL (nv_c (tmod_in64 (nv_h (nv_t hn))) (nv_t (nv_t hn)))
theorem A_lneg {x : Int} (hd : decode M.2.1 pc = .ok (.lneg, 1)) (k : aw G R M cu su (pc + 1) L (av_L (w64 (-x)) :: st) h Q) : aw G R M cu su pc L (av_L x :: st) h Q := by
  intro p e s m args below meth c H locs ls S hH hO hS hb hL hn
  refine lv_lneg S.1 S.2.1 hd ?_
  rw [← w64_neg x]
  exact k p e s m args below meth c H locs ls S hH hO hS hb hL (nv_c (w64_in _) (nv_t hn))
theorem A_land {x y : Int} (hd : decode M.2.1 pc = .ok (.land, 1)) (k : aw G R M cu su (pc + 1) L (av_L ((Int64.ofInt x &&& Int64.ofInt y).toInt) :: st) h Q) : aw G R M cu su pc L (av_L y :: av_L x :: st) h Q := by
  intro p e s m args below meth c H locs ls S hH hO hS hb hL hn
  refine lv_land S.1 S.2.1 hd ?_
  rw [← i64_rt (Int64.ofInt x &&& Int64.ofInt y)]
  exact k p e s m args below meth c H locs ls S hH hO hS hb hL (nv_c (i64_of _) (nv_t (nv_t hn)))
theorem A_lor {x y : Int} (hd : decode M.2.1 pc = .ok (.lor, 1)) (k : aw G R M cu su (pc + 1) L (av_L ((Int64.ofInt x ||| Int64.ofInt y).toInt) :: st) h Q) : aw G R M cu su pc L (av_L y :: av_L x :: st) h Q := by
  intro p e s m args below meth c H locs ls S hH hO hS hb hL hn
  refine lv_lor S.1 S.2.1 hd ?_
  rw [← i64_rt (Int64.ofInt x ||| Int64.ofInt y)]
  exact k p e s m args below meth c H locs ls S hH hO hS hb hL (nv_c (i64_of _) (nv_t (nv_t hn)))
theorem A_lxor {x y : Int} (hd : decode M.2.1 pc = .ok (.lxor, 1)) (k : aw G R M cu su (pc + 1) L (av_L ((Int64.ofInt x ^^^ Int64.ofInt y).toInt) :: st) h Q) : aw G R M cu su pc L (av_L y :: av_L x :: st) h Q := by
  intro p e s m args below meth c H locs ls S hH hO hS hb hL hn
  refine lv_lxor S.1 S.2.1 hd ?_
  rw [← i64_rt (Int64.ofInt x ^^^ Int64.ofInt y)]
  exact k p e s m args below meth c H locs ls S hH hO hS hb hL (nv_c (i64_of _) (nv_t (nv_t hn)))
theorem A_lshl {x y : Int} (hd : decode M.2.1 pc = .ok (.lshl, 1)) (k : aw G R M cu su (pc + 1) L (av_L ((Int64.ofInt x <<< ((Int32.ofInt y).toInt64 &&& 63)).toInt) :: st) h Q) : aw G R M cu su pc L (av_I y :: av_L x :: st) h Q := by
  intro p e s m args below meth c H locs ls S hH hO hS hb hL hn
  refine lv_lshl S.1 S.2.1 hd (i64_rt _).symm ?_
  exact k p e s m args below meth c H locs ls S hH hO hS hb hL (nv_c (i64_of _) (nv_t (nv_t hn)))
theorem A_lshr {x y : Int} (hd : decode M.2.1 pc = .ok (.lshr, 1)) (k : aw G R M cu su (pc + 1) L (av_L ((Int64.ofInt x >>> ((Int32.ofInt y).toInt64 &&& 63)).toInt) :: st) h Q) : aw G R M cu su pc L (av_I y :: av_L x :: st) h Q := by
  intro p e s m args below meth c H locs ls S hH hO hS hb hL hn
  refine lv_lshr S.1 S.2.1 hd (i64_rt _).symm ?_
  exact k p e s m args below meth c H locs ls S hH hO hS hb hL (nv_c (i64_of _) (nv_t (nv_t hn)))
theorem A_lushr {x y : Int} (hd : decode M.2.1 pc = .ok (.lushr, 1)) (k : aw G R M cu su (pc + 1) L (av_L ((((Int64.ofInt x).toUInt64 >>> ((Int32.ofInt y).toInt64.toUInt64 &&& Int64.toUInt64 63)).toInt64).toInt) :: st) h Q) : aw G R M cu su pc L (av_I y :: av_L x :: st) h Q := by
  intro p e s m args below meth c H locs ls S hH hO hS hb hL hn
  refine lv_lushr S.1 S.2.1 hd (i64_rt _).symm ?_
  exact k p e s m args below meth c H locs ls S hH hO hS hb hL (nv_c (i64_of _) (nv_t (nv_t hn)))
theorem A_lcmp {x y : Int} (hd : decode M.2.1 pc = .ok (.lcmp, 1)) (k : aw G R M cu su (pc + 1) L (av_I (cmp_I x y) :: st) h Q) : aw G R M cu su pc L (av_L y :: av_L x :: st) h Q := by
  intro p e s m args below meth c H locs ls S hH hO hS hb hL hn
  refine W.lcmp S.1 S.2.1 hd ?_
  rw [cmp_v (nv_h (nv_t hn)) (nv_h hn)]
  exact k p e s m args below meth c H locs ls S hH hO hS hb hL (nv_c (cmp_in x y) (nv_t (nv_t hn)))
theorem A_dcmp {x y : UInt64} {op : CmpOp} (hd : decode M.2.1 pc = .ok (.dcmp op, 1)) (k : aw G R M cu su (pc + 1) L (av_I ((Op.cmpValue (FP.dcmp x y) op).toInt) :: st) h Q) : aw G R M cu su pc L (av_D y :: av_D x :: st) h Q := by
  intro p e s m args below meth c H locs ls S hH hO hS hb hL hn
  refine lv_dcmp S.1 S.2.1 hd ?_
  rw [← i32_rt (Op.cmpValue (FP.dcmp x y) op)]
  exact k p e s m args below meth c H locs ls S hH hO hS hb hL (nv_c (i32_of _) (nv_t (nv_t hn)))
theorem A_dupI {x : Int} (hd : decode M.2.1 pc = .ok (.dup, 1)) (k : aw G R M cu su (pc + 1) L (av_I x :: av_I x :: st) h Q) : aw G R M cu su pc L (av_I x :: st) h Q := by
  intro p e s m args below meth c H locs ls S hH hO hS hb hL hn
  refine lv_dup S.1 S.2.1 hd rfl ?_
  exact k p e s m args below meth c H locs ls S hH hO hS hb hL (nv_c (nv_h hn) hn)
theorem A_popI {x : Int} (hd : decode M.2.1 pc = .ok (.pop, 1)) (k : aw G R M cu su (pc + 1) L (st) h Q) : aw G R M cu su pc L (av_I x :: st) h Q := by
  intro p e s m args below meth c H locs ls S hH hO hS hb hL hn
  refine lv_pop S.1 S.2.1 hd rfl ?_
  exact k p e s m args below meth c H locs ls S hH hO hS hb hL (nv_t hn)
theorem A_dupR {x : Option Nat} (hd : decode M.2.1 pc = .ok (.dup, 1)) (k : aw G R M cu su (pc + 1) L (av_R x :: av_R x :: st) h Q) : aw G R M cu su pc L (av_R x :: st) h Q := by
  intro p e s m args below meth c H locs ls S hH hO hS hb hL hn
  refine lv_dup S.1 S.2.1 hd (by cases x <;> rfl) ?_
  exact k p e s m args below meth c H locs ls S hH hO hS hb hL (nv_c (nv_h hn) hn)
theorem A_popR {x : Option Nat} (hd : decode M.2.1 pc = .ok (.pop, 1)) (k : aw G R M cu su (pc + 1) L (st) h Q) : aw G R M cu su pc L (av_R x :: st) h Q := by
  intro p e s m args below meth c H locs ls S hH hO hS hb hL hn
  refine lv_pop S.1 S.2.1 hd (by cases x <;> rfl) ?_
  exact k p e s m args below meth c H locs ls S hH hO hS hb hL (nv_t hn)
theorem A_dupS {x : Nat} (hd : decode M.2.1 pc = .ok (.dup, 1)) (k : aw G R M cu su (pc + 1) L (av_S x :: av_S x :: st) h Q) : aw G R M cu su pc L (av_S x :: st) h Q := by
  intro p e s m args below meth c H locs ls S hH hO hS hb hL hn
  refine lv_dup S.1 S.2.1 hd rfl ?_
  exact k p e s m args below meth c H locs ls S hH hO hS hb hL (nv_c (nv_h hn) hn)
theorem A_popS {x : Nat} (hd : decode M.2.1 pc = .ok (.pop, 1)) (k : aw G R M cu su (pc + 1) L (st) h Q) : aw G R M cu su pc L (av_S x :: st) h Q := by
  intro p e s m args below meth c H locs ls S hH hO hS hb hL hn
  refine lv_pop S.1 S.2.1 hd rfl ?_
  exact k p e s m args below meth c H locs ls S hH hO hS hb hL (nv_t hn)
theorem A_dup2RI {r : Option Nat} {x : Int} (hd : decode M.2.1 pc = .ok (.dup2, 1)) (k : aw G R M cu su (pc + 1) L (av_I x :: av_R r :: av_I x :: av_R r :: st) h Q) : aw G R M cu su pc L (av_I x :: av_R r :: st) h Q := by
  intro p e s m args below meth c H locs ls S hH hO hS hb hL hn
  refine lv_dup2_11 S.1 S.2.1 hd rfl (by cases r <;> rfl) ?_
  exact k p e s m args below meth c H locs ls S hH hO hS hb hL (nv_c (nv_h hn) (nv_c trivial hn))
theorem A_dup2L {x : Int} (hd : decode M.2.1 pc = .ok (.dup2, 1)) (k : aw G R M cu su (pc + 1) L (av_L x :: av_L x :: st) h Q) : aw G R M cu su pc L (av_L x :: st) h Q := by
  intro p e s m args below meth c H locs ls S hH hO hS hb hL hn
  refine lv_dup2_2 S.1 S.2.1 hd rfl ?_
  exact k p e s m args below meth c H locs ls S hH hO hS hb hL (nv_c (nv_h hn) hn)
theorem A_pop2L {x : Int} (hd : decode M.2.1 pc = .ok (.pop2, 1)) (k : aw G R M cu su (pc + 1) L (st) h Q) : aw G R M cu su pc L (av_L x :: st) h Q := by
  intro p e s m args below meth c H locs ls S hH hO hS hb hL hn
  refine lv_pop2_2 S.1 S.2.1 hd rfl ?_
  exact k p e s m args below meth c H locs ls S hH hO hS hb hL (nv_t hn)
theorem A_pop2D {x : UInt64} (hd : decode M.2.1 pc = .ok (.pop2, 1)) (k : aw G R M cu su (pc + 1) L (st) h Q) : aw G R M cu su pc L (av_D x :: st) h Q := by
  intro p e s m args below meth c H locs ls S hH hO hS hb hL hn
  refine lv_pop2_2 S.1 S.2.1 hd rfl ?_
  exact k p e s m args below meth c H locs ls S hH hO hS hb hL (nv_t hn)
theorem A_goto {off : Int} {tgt : Nat} (hd : decode M.2.1 pc = .ok (.goto off, 3)) (ht : (pc : Int) + off = (tgt : Int)) (k : aw G R M cu su tgt L st h Q) : aw G R M cu su pc L st h Q := by
  intro p e s m args below meth c H locs ls S hH hO hS hb hL hn
  exact lv_goto S.1 S.2.1 hd ht (k p e s m args below meth c H locs ls S hH hO hS hb hL hn)
theorem A_if_eq {x : Int} {off : Int} {tgt : Nat} (hd : decode M.2.1 pc = .ok (.ifCond .eq off, 3)) (ht : (pc : Int) + off = (tgt : Int)) (kt : x = 0 → aw G R M cu su tgt L st h Q) (kf : ¬ x = 0 → aw G R M cu su (pc + 3) L st h Q) : aw G R M cu su pc L (av_I x :: st) h Q := by
  intro p e s m args below meth c H locs ls S hH hO hS hb hL hn
  exact lv_if_eq S.1 S.2.1 hd ht (fun z => (kt ((i32_eq (nv_h hn) i32_0).mp z)) p e s m args below meth c H locs ls S hH hO hS hb hL (nv_t hn)) (fun z => (kf (fun w => z ((i32_eq (nv_h hn) i32_0).mpr w))) p e s m args below meth c H locs ls S hH hO hS hb hL (nv_t hn))
theorem A_icmp_eq {x y : Int} {off : Int} {tgt : Nat} (hd : decode M.2.1 pc = .ok (.if_icmp .eq off, 3)) (ht : (pc : Int) + off = (tgt : Int)) (kt : x = y → aw G R M cu su tgt L st h Q) (kf : ¬ x = y → aw G R M cu su (pc + 3) L st h Q) : aw G R M cu su pc L (av_I y :: av_I x :: st) h Q := by
  intro p e s m args below meth c H locs ls S hH hO hS hb hL hn
  exact lv_icmp_eq S.1 S.2.1 hd ht (fun z => (kt ((i32_eq (nv_h (nv_t hn)) (nv_h hn)).mp z)) p e s m args below meth c H locs ls S hH hO hS hb hL (nv_t (nv_t hn))) (fun z => (kf (fun w => z ((i32_eq (nv_h (nv_t hn)) (nv_h hn)).mpr w))) p e s m args below meth c H locs ls S hH hO hS hb hL (nv_t (nv_t hn)))
theorem A_if_ne {x : Int} {off : Int} {tgt : Nat} (hd : decode M.2.1 pc = .ok (.ifCond .ne off, 3)) (ht : (pc : Int) + off = (tgt : Int)) (kt : ¬ x = 0 → aw G R M cu su tgt L st h Q) (kf : x = 0 → aw G R M cu su (pc + 3) L st h Q) : aw G R M cu su pc L (av_I x :: st) h Q := by
  intro p e s m args below meth c H locs ls S hH hO hS hb hL hn
  exact lv_if_ne S.1 S.2.1 hd ht (fun z => (kt (fun w => z ((i32_eq (nv_h hn) i32_0).mpr w))) p e s m args below meth c H locs ls S hH hO hS hb hL (nv_t hn)) (fun z => (kf ((i32_eq (nv_h hn) i32_0).mp z)) p e s m args below meth c H locs ls S hH hO hS hb hL (nv_t hn))
theorem A_icmp_ne {x y : Int} {off : Int} {tgt : Nat} (hd : decode M.2.1 pc = .ok (.if_icmp .ne off, 3)) (ht : (pc : Int) + off = (tgt : Int)) (kt : ¬ x = y → aw G R M cu su tgt L st h Q) (kf : x = y → aw G R M cu su (pc + 3) L st h Q) : aw G R M cu su pc L (av_I y :: av_I x :: st) h Q := by
  intro p e s m args below meth c H locs ls S hH hO hS hb hL hn
  exact lv_icmp_ne S.1 S.2.1 hd ht (fun z => (kt (fun w => z ((i32_eq (nv_h (nv_t hn)) (nv_h hn)).mpr w))) p e s m args below meth c H locs ls S hH hO hS hb hL (nv_t (nv_t hn))) (fun z => (kf ((i32_eq (nv_h (nv_t hn)) (nv_h hn)).mp z)) p e s m args below meth c H locs ls S hH hO hS hb hL (nv_t (nv_t hn)))
theorem A_if_lt {x : Int} {off : Int} {tgt : Nat} (hd : decode M.2.1 pc = .ok (.ifCond .lt off, 3)) (ht : (pc : Int) + off = (tgt : Int)) (kt : x < 0 → aw G R M cu su tgt L st h Q) (kf : ¬ x < 0 → aw G R M cu su (pc + 3) L st h Q) : aw G R M cu su pc L (av_I x :: st) h Q := by
  intro p e s m args below meth c H locs ls S hH hO hS hb hL hn
  exact lv_if_lt S.1 S.2.1 hd ht (fun z => (kt ((i32_lt (nv_h hn) i32_0).mp z)) p e s m args below meth c H locs ls S hH hO hS hb hL (nv_t hn)) (fun z => (kf (fun w => z ((i32_lt (nv_h hn) i32_0).mpr w))) p e s m args below meth c H locs ls S hH hO hS hb hL (nv_t hn))
theorem A_icmp_lt {x y : Int} {off : Int} {tgt : Nat} (hd : decode M.2.1 pc = .ok (.if_icmp .lt off, 3)) (ht : (pc : Int) + off = (tgt : Int)) (kt : x < y → aw G R M cu su tgt L st h Q) (kf : ¬ x < y → aw G R M cu su (pc + 3) L st h Q) : aw G R M cu su pc L (av_I y :: av_I x :: st) h Q := by
  intro p e s m args below meth c H locs ls S hH hO hS hb hL hn
  exact lv_icmp_lt S.1 S.2.1 hd ht (fun z => (kt ((i32_lt (nv_h (nv_t hn)) (nv_h hn)).mp z)) p e s m args below meth c H locs ls S hH hO hS hb hL (nv_t (nv_t hn))) (fun z => (kf (fun w => z ((i32_lt (nv_h (nv_t hn)) (nv_h hn)).mpr w))) p e s m args below meth c H locs ls S hH hO hS hb hL (nv_t (nv_t hn)))
theorem A_if_ge {x : Int} {off : Int} {tgt : Nat} (hd : decode M.2.1 pc = .ok (.ifCond .ge off, 3)) (ht : (pc : Int) + off = (tgt : Int)) (kt : 0 ≤ x → aw G R M cu su tgt L st h Q) (kf : ¬ 0 ≤ x → aw G R M cu su (pc + 3) L st h Q) : aw G R M cu su pc L (av_I x :: st) h Q := by
  intro p e s m args below meth c H locs ls S hH hO hS hb hL hn
  exact lv_if_ge S.1 S.2.1 hd ht (fun z => (kt ((i32_le i32_0 (nv_h hn)).mp z)) p e s m args below meth c H locs ls S hH hO hS hb hL (nv_t hn)) (fun z => (kf (fun w => z ((i32_le i32_0 (nv_h hn)).mpr w))) p e s m args below meth c H locs ls S hH hO hS hb hL (nv_t hn))
theorem A_icmp_ge {x y : Int} {off : Int} {tgt : Nat} (hd : decode M.2.1 pc = .ok (.if_icmp .ge off, 3)) (ht : (pc : Int) + off = (tgt : Int)) (kt : y ≤ x → aw G R M cu su tgt L st h Q) (kf : ¬ y ≤ x → aw G R M cu su (pc + 3) L st h Q) : aw G R M cu su pc L (av_I y :: av_I x :: st) h Q := by
  intro p e s m args below meth c H locs ls S hH hO hS hb hL hn
  exact lv_icmp_ge S.1 S.2.1 hd ht (fun z => (kt ((i32_le (nv_h hn) (nv_h (nv_t hn))).mp z)) p e s m args below meth c H locs ls S hH hO hS hb hL (nv_t (nv_t hn))) (fun z => (kf (fun w => z ((i32_le (nv_h hn) (nv_h (nv_t hn))).mpr w))) p e s m args below meth c H locs ls S hH hO hS hb hL (nv_t (nv_t hn)))
theorem A_if_gt {x : Int} {off : Int} {tgt : Nat} (hd : decode M.2.1 pc = .ok (.ifCond .gt off, 3)) (ht : (pc : Int) + off = (tgt : Int)) (kt : 0 < x → aw G R M cu su tgt L st h Q) (kf : ¬ 0 < x → aw G R M cu su (pc + 3) L st h Q) : aw G R M cu su pc L (av_I x :: st) h Q := by
  intro p e s m args below meth c H locs ls S hH hO hS hb hL hn
  exact lv_if_gt S.1 S.2.1 hd ht (fun z => (kt ((i32_lt i32_0 (nv_h hn)).mp z)) p e s m args below meth c H locs ls S hH hO hS hb hL (nv_t hn)) (fun z => (kf (fun w => z ((i32_lt i32_0 (nv_h hn)).mpr w))) p e s m args below meth c H locs ls S hH hO hS hb hL (nv_t hn))
theorem A_icmp_gt {x y : Int} {off : Int} {tgt : Nat} (hd : decode M.2.1 pc = .ok (.if_icmp .gt off, 3)) (ht : (pc : Int) + off = (tgt : Int)) (kt : y < x → aw G R M cu su tgt L st h Q) (kf : ¬ y < x → aw G R M cu su (pc + 3) L st h Q) : aw G R M cu su pc L (av_I y :: av_I x :: st) h Q := by
  intro p e s m args below meth c H locs ls S hH hO hS hb hL hn
  exact lv_icmp_gt S.1 S.2.1 hd ht (fun z => (kt ((i32_lt (nv_h hn) (nv_h (nv_t hn))).mp z)) p e s m args below meth c H locs ls S hH hO hS hb hL (nv_t (nv_t hn))) (fun z => (kf (fun w => z ((i32_lt (nv_h hn) (nv_h (nv_t hn))).mpr w))) p e s m args below meth c H locs ls S hH hO hS hb hL (nv_t (nv_t hn)))
theorem A_if_le {x : Int} {off : Int} {tgt : Nat} (hd : decode M.2.1 pc = .ok (.ifCond .le off, 3)) (ht : (pc : Int) + off = (tgt : Int)) (kt : x ≤ 0 → aw G R M cu su tgt L st h Q) (kf : ¬ x ≤ 0 → aw G R M cu su (pc + 3) L st h Q) : aw G R M cu su pc L (av_I x :: st) h Q := by
  intro p e s m args below meth c H locs ls S hH hO hS hb hL hn
  exact lv_if_le S.1 S.2.1 hd ht (fun z => (kt ((i32_le (nv_h hn) i32_0).mp z)) p e s m args below meth c H locs ls S hH hO hS hb hL (nv_t hn)) (fun z => (kf (fun w => z ((i32_le (nv_h hn) i32_0).mpr w))) p e s m args below meth c H locs ls S hH hO hS hb hL (nv_t hn))
theorem A_icmp_le {x y : Int} {off : Int} {tgt : Nat} (hd : decode M.2.1 pc = .ok (.if_icmp .le off, 3)) (ht : (pc : Int) + off = (tgt : Int)) (kt : x ≤ y → aw G R M cu su tgt L st h Q) (kf : ¬ x ≤ y → aw G R M cu su (pc + 3) L st h Q) : aw G R M cu su pc L (av_I y :: av_I x :: st) h Q := by
  intro p e s m args below meth c H locs ls S hH hO hS hb hL hn
  exact lv_icmp_le S.1 S.2.1 hd ht (fun z => (kt ((i32_le (nv_h (nv_t hn)) (nv_h hn)).mp z)) p e s m args below meth c H locs ls S hH hO hS hb hL (nv_t (nv_t hn))) (fun z => (kf (fun w => z ((i32_le (nv_h (nv_t hn)) (nv_h hn)).mpr w))) p e s m args below meth c H locs ls S hH hO hS hb hL (nv_t (nv_t hn)))
theorem A_ifnull {r : Option Nat} {off : Int} {tgt : Nat} (hd : decode M.2.1 pc = .ok (.ifnull off, 3)) (ht : (pc : Int) + off = (tgt : Int)) (kt : r = none → aw G R M cu su tgt L st h Q) (kf : ∀ a, r = some a → aw G R M cu su (pc + 3) L st h Q) : aw G R M cu su pc L (av_R r :: st) h Q := by
  intro p e s m args below meth c H locs ls S hH hO hS hb hL hn
  cases r with
  | none => exact lv_ifnullN S.1 S.2.1 hd ht ((kt rfl) p e s m args below meth c H locs ls S hH hO hS hb hL (nv_t hn))
  | some a => exact lv_ifnull S.1 S.2.1 hd ((kf a rfl) p e s m args below meth c H locs ls S hH hO hS hb hL (nv_t hn))
theorem A_ifnonnull {r : Option Nat} {off : Int} {tgt : Nat} (hd : decode M.2.1 pc = .ok (.ifnonnull off, 3)) (ht : (pc : Int) + off = (tgt : Int)) (kt : ∀ a, r = some a → aw G R M cu su tgt L st h Q) (kf : r = none → aw G R M cu su (pc + 3) L st h Q) : aw G R M cu su pc L (av_R r :: st) h Q := by
  intro p e s m args below meth c H locs ls S hH hO hS hb hL hn
  cases r with
  | none => exact lv_ifnonnullN S.1 S.2.1 hd ((kf rfl) p e s m args below meth c H locs ls S hH hO hS hb hL (nv_t hn))
  | some a => exact lv_ifnonnull S.1 S.2.1 hd ht ((kt a rfl) p e s m args below meth c H locs ls S hH hO hS hb hL (nv_t hn))
theorem A_tabIn {x : Int} {dflt lo hi : Int} {offs : Array Int} {len : Nat} {off : Int} {tgt : Nat} (hd : decode M.2.1 pc = .ok (.tableswitch dflt lo hi offs, len)) (h1 : lo ≤ x) (h2 : x ≤ hi) (ho : offs[(x - lo).toNat]? = some off) (ht : (pc : Int) + off = (tgt : Int)) (k : aw G R M cu su tgt L st h Q) : aw G R M cu su pc L (av_I x :: st) h Q := by
  intro p e s m args below meth c H locs ls S hH hO hS hb hL hn
  have e1 := i32_tn (nv_h hn)
  exact lv_tableIn S.1 S.2.1 hd (by rw [e1]; omega) (by rw [e1]; omega) (by rw [e1]; exact ho) ht (k p e s m args below meth c H locs ls S hH hO hS hb hL (nv_t hn))
theorem A_tabOut {x : Int} {dflt lo hi : Int} {offs : Array Int} {len : Nat} {tgt : Nat} (hd : decode M.2.1 pc = .ok (.tableswitch dflt lo hi offs, len)) (h1 : x < lo ∨ hi < x) (ht : (pc : Int) + dflt = (tgt : Int)) (k : aw G R M cu su tgt L st h Q) : aw G R M cu su pc L (av_I x :: st) h Q := by
  intro p e s m args below meth c H locs ls S hH hO hS hb hL hn
  have e1 := i32_tn (nv_h hn)
  exact lv_tableOut S.1 S.2.1 hd (by rw [e1]; exact h1) ht (k p e s m args below meth c H locs ls S hH hO hS hb hL (nv_t hn))
theorem A_nmI {x : Int} (k : ∀ y : Int, y = x → aw G R M cu su pc L (av_I y :: st) h Q) : aw G R M cu su pc L (av_I x :: st) h Q := k x rfl
theorem A_nmL {x : Int} (k : ∀ y : Int, y = x → aw G R M cu su pc L (av_L y :: st) h Q) : aw G R M cu su pc L (av_L x :: st) h Q := k x rfl
theorem A_rgI {x : Int} (k : i32 x → aw G R M cu su pc L (av_I x :: st) h Q) : aw G R M cu su pc L (av_I x :: st) h Q := by
  intro p e s m args below meth c H locs ls S hH hO hS hb hL hn
  exact (k (nv_h hn)) p e s m args below meth c H locs ls S hH hO hS hb hL hn
theorem A_rgL {x : Int} (k : i64 x → aw G R M cu su pc L (av_L x :: st) h Q) : aw G R M cu su pc L (av_L x :: st) h Q := by
  intro p e s m args below meth c H locs ls S hH hO hS hb hL hn
  exact (k (nv_h hn)) p e s m args below meth c H locs ls S hH hO hS hb hL hn
theorem A_locI (i : Nat) {x : Int} (hl : L[i]? = some (some (av_I x))) (k : i32 x → aw G R M cu su pc L st h Q) : aw G R M cu su pc L st h Q := by
  intro p e s m args below meth c H locs ls S hH hO hS hb hL hn
  exact (k (hL.2.2.2 i _ hl).2) p e s m args below meth c H locs ls S hH hO hS hb hL hn
theorem A_locL (i : Nat) {x : Int} (hl : L[i]? = some (some (av_L x))) (k : i64 x → aw G R M cu su pc L st h Q) : aw G R M cu su pc L st h Q := by
  intro p e s m args below meth c H locs ls S hH hO hS hb hL hn
  exact (k (hL.2.2.2 i _ hl).2) p e s m args below meth c H locs ls S hH hO hS hb hL hn
theorem A_heap (k : (∀ a k, i32 (h.2.1 a k)) → (∀ a k, i64 (h.2.2.1 a k)) → (∀ a, h.1.length ≤ a → ∀ k, h.2.1 a k = 0 ∧ h.2.2.1 a k = 0 ∧ h.2.2.2 a k = none) → aw G R M cu su pc L st h Q) : aw G R M cu su pc L st h Q := by
  intro p e s m args below meth c H locs ls S hH hO hS hb hL hn
  exact (k hH.2.2.2.1 hH.2.2.2.2 hH.2.2.1) p e s m args below meth c H locs ls S hH hO hS hb hL hn
theorem A_pc {pc' : Nat} (hp : pc = pc') (k : aw G R M cu su pc' L st h Q) : aw G R M cu su pc L st h Q := hp ▸ k
theorem A_iret {x : Int} (hd : decode M.2.1 pc = .ok (.ireturn, 1)) (hc : cu ≤ R.cells ∧ su ≤ R.slots) (hr : M.2.2.2 = some .int) (hq : Q (some (av_I x)) h) : aw G R M cu su pc L [av_I x] h Q := by
  intro p e s m args below meth c H locs ls S hH hO hS hb hL hn
  refine W.widen hc.1 hc.2 ?_
  exact W.iret S.1 S.2.1 (S.2.2.2.2.2.2.1.trans hr) (fun t ht hw => ⟨⟨some (av_I x), h, rfl, (fun v hv => by cases hv; exact nv_h hn), hq, by rw [ht]; exact hH, ro_end hO hS ht hw⟩, hS.F ht⟩) hS.2.2 hd S.2.2.2.2.2.2.2.1
theorem A_zret {x : Int} (hd : decode M.2.1 pc = .ok (.ireturn, 1)) (hc : cu ≤ R.cells ∧ su ≤ R.slots) (hr : M.2.2.2 = some .boolean) (h01 : x = 0 ∨ x = 1) (hq : Q (some (av_I x)) h) : aw G R M cu su pc L [av_I x] h Q := by
  intro p e s m args below meth c H locs ls S hH hO hS hb hL hn
  refine W.widen hc.1 hc.2 ?_
  exact W.zret S.1 S.2.1 (S.2.2.2.2.2.2.1.trans hr) (nar_b h01) (fun t ht hw => ⟨⟨some (av_I x), h, rfl, (fun v hv => by cases hv; exact nv_h hn), hq, by rw [ht]; exact hH, ro_end hO hS ht hw⟩, hS.F ht⟩) hS.2.2 hd S.2.2.2.2.2.2.2.1
theorem A_cret {x : Int} (hd : decode M.2.1 pc = .ok (.ireturn, 1)) (hc : cu ≤ R.cells ∧ su ≤ R.slots) (hr : M.2.2.2 = some .char) (h01 : 0 ≤ x ∧ x < 65536) (hq : Q (some (av_I x)) h) : aw G R M cu su pc L [av_I x] h Q := by
  intro p e s m args below meth c H locs ls S hH hO hS hb hL hn
  refine W.widen hc.1 hc.2 ?_
  exact W.zret S.1 S.2.1 (S.2.2.2.2.2.2.1.trans hr) (nar_c h01) (fun t ht hw => ⟨⟨some (av_I x), h, rfl, (fun v hv => by cases hv; exact nv_h hn), hq, by rw [ht]; exact hH, ro_end hO hS ht hw⟩, hS.F ht⟩) hS.2.2 hd S.2.2.2.2.2.2.2.1
theorem A_lret {x : Int} (hd : decode M.2.1 pc = .ok (.lreturn, 1)) (hc : cu ≤ R.cells ∧ su ≤ R.slots) (hr : M.2.2.2 = some .long) (hq : Q (some (av_L x)) h) : aw G R M cu su pc L [av_L x] h Q := by
  intro p e s m args below meth c H locs ls S hH hO hS hb hL hn
  refine W.widen hc.1 hc.2 ?_
  exact W.lret S.1 S.2.1 (S.2.2.2.2.2.2.1.trans hr) (fun t ht hw => ⟨⟨some (av_L x), h, rfl, (fun v hv => by cases hv; exact nv_h hn), hq, by rw [ht]; exact hH, ro_end hO hS ht hw⟩, hS.F ht⟩) hS.2.2 hd S.2.2.2.2.2.2.2.1
theorem A_dret {x : UInt64} (hd : decode M.2.1 pc = .ok (.dreturn, 1)) (hc : cu ≤ R.cells ∧ su ≤ R.slots) (hr : M.2.2.2 = some .double) (hq : Q (some (av_D x)) h) : aw G R M cu su pc L [av_D x] h Q := by
  intro p e s m args below meth c H locs ls S hH hO hS hb hL hn
  refine W.widen hc.1 hc.2 ?_
  exact W.dret S.1 S.2.1 (S.2.2.2.2.2.2.1.trans hr) (fun t ht hw => ⟨⟨some (av_D x), h, rfl, (fun v hv => by cases hv; exact nv_h hn), hq, by rw [ht]; exact hH, ro_end hO hS ht hw⟩, hS.F ht⟩) hS.2.2 hd S.2.2.2.2.2.2.2.1
theorem A_aret {r : Option Nat} (hd : decode M.2.1 pc = .ok (.areturn, 1)) (hc : cu ≤ R.cells ∧ su ≤ R.slots) {rt : FieldType} (hr : M.2.2.2 = some rt) (hrt : (∃ n, rt = .object n) ∨ ∃ t, rt = .array t) (hq : Q (some (av_R r)) h) : aw G R M cu su pc L [av_R r] h Q := by
  intro p e s m args below meth c H locs ls S hH hO hS hb hL hn
  refine W.widen hc.1 hc.2 ?_
  exact W.aret S.1 S.2.1 (S.2.2.2.2.2.2.1.trans hr) hrt (cv_ref r) (fun t ht hw => ⟨⟨some (av_R r), h, rfl, (fun v hv => by cases hv; exact nv_h hn), hq, by rw [ht]; exact hH, ro_end hO hS ht hw⟩, hS.F ht⟩) hS.2.2 hd S.2.2.2.2.2.2.2.1
theorem A_vret  (hd : decode M.2.1 pc = .ok (.return_, 1)) (hc : cu ≤ R.cells ∧ su ≤ R.slots) (hr : M.2.2.2 = none) (hq : Q none h) : aw G R M cu su pc L [] h Q := by
  intro p e s m args below meth c H locs ls S hH hO hS hb hL hn
  refine W.widen hc.1 hc.2 ?_
  exact W.vret S.1 S.2.1 (S.2.2.2.2.2.2.1.trans hr) (fun t ht hw => ⟨⟨none, h, rfl, (fun v hv => by cases hv), hq, by rw [ht]; exact hH, ro_end hO hS ht hw⟩, hS.F ht⟩) hS.2.2 hd S.2.2.2.2.2.2.2.1
end AWR

/-! ===== rows of the abstract machine that read and write the heap, make cells, call ===== -/
def fl_OK (own : String) (idx c k : Nat) (ty : FieldType) (fin : Bool) : Prop := ∃ q : vw_C, classes[c]? = some q ∧ k < q.2.2 ∧ Cond.fieldLink own idx (q.2.1 k).1 (q.2.1 k).2.1 (q.2.1 k).2.2.1 ∈ gw ∧ f_ty c k = ty ∧ (q.2.1 k).2.2.2 = fin
def cl_F (c : Nat) (q : vw_C) : Prop := (∀ w ∈ u_ws q.1 q.2.1 q.2.2, w ∈ gw) ∧ (∀ k, k < q.2.2 → parseFieldDescriptor (q.2.1 k).2.2.1 = some (f_ty c k)) ∧ (∀ a, a < q.2.2 → ∀ b, b < q.2.2 → a ≠ b → (q.2.1 a).2.1 ≠ (q.2.1 b).2.1) ∧ Cond.instantiable q.1 q.2.2 ∈ gw ∧ Cond.initialized q.1 ∈ gw ∧ ∀ k, k < q.2.2 → (q.2.1 k).1 = q.1
def tbl_OK : Prop := ∀ c q, classes[c]? = some q → cl_F c q
theorem hr_lt {G : cx_T} {h : ah_T} {H : Heap} (hH : hr_OK G h H) {a kd n : Nat} (hs : h.1[a]? = some (kd, n)) : a < h.1.length ∧ cx_b G + a < H.size := by
  have h1 := (List.getElem?_eq_some_iff.mp hs).1
  exact ⟨h1, by rw [hH.1]; omega⟩
theorem hr_upd {G : cx_T} {h h' : ah_T} {H H1 : Heap} (hH : hr_OK G h H) {a kd n : Nat} (hs : h.1[a]? = some (kd, n)) (hsh : h'.1 = h.1) (ho : ∀ x, x ≠ a → h'.2.1 x = h.2.1 x ∧ h'.2.2.1 x = h.2.2.1 x ∧ h'.2.2.2 x = h.2.2.2 x)
    (hr1 : ∀ k, i32 (h'.2.1 a k)) (hr2 : ∀ k, i64 (h'.2.2.1 a k)) (z : H1.size = H.size) (oq : ∀ q : Nat, q ≠ cx_b G + a → H1[q]? = H[q]?) (hc : cell_R G kd n (h'.2.1 a) (h'.2.2.1 a) (h'.2.2.2 a) (cx_b G + a) H1) : hr_OK G h' H1 := by
  obtain ⟨h1, h2, h3, h4, h5⟩ := hH
  have hlt := (List.getElem?_eq_some_iff.mp hs).1
  refine ⟨by rw [z, h1, hsh], fun x kx nx hx => ?_, fun x hx k => ?_, fun x k => ?_, fun x k => ?_⟩
  · rw [hsh] at hx
    by_cases hxa : x = a
    · subst hxa
      rw [hs] at hx
      cases hx
      exact hc
    · obtain ⟨o1, o2, o3⟩ := ho x hxa
      rw [o1, o2, o3]
      exact (h2 x kx nx hx).kept (oq _ (by omega))
  · rw [hsh] at hx
    obtain ⟨o1, o2, o3⟩ := ho x (by omega)
    rw [o1, o2, o3]
    exact h3 x hx k
  · by_cases hxa : x = a
    · subst hxa; exact hr1 k
    · rw [(ho x hxa).1]; exact h4 x k
  · by_cases hxa : x = a
    · subst hxa; exact hr2 k
    · rw [(ho x hxa).2.1]; exact h5 x k
theorem up1_i32 {f : Nat → Int} {k : Nat} {z : Int} (hf : ∀ j, i32 (f j)) (hz : i32 z) : ∀ j, i32 (up1 f k z j) := by
  intro j
  unfold up1
  split
  · exact hz
  · exact hf j
theorem up1_i64 {f : Nat → Int} {k : Nat} {z : Int} (hf : ∀ j, i64 (f j)) (hz : i64 z) : ∀ j, i64 (up1 f k z j) := by
  intro j
  unfold up1
  split
  · exact hz
  · exact hf j
theorem fvi_up {b : Nat} {ty : Nat → FieldType} {fi fl : Nat → Int} {fr : Nat → Option Nat} {k : Nat} {z : Int} (hk : ty k = .int ∨ ty k = .boolean) (j : Nat) : fv_V b (ty j) (up1 fi k z) fl fr j = updV (fun j => fv_V b (ty j) fi fl fr j) k (.int (Int32.ofInt z)) j := by
  by_cases hj : j = k
  · subst hj
    rcases hk with hk | hk <;> simp [updV, hk, fv_V, up1]
  · simp only [updV, hj, if_false]
    cases hty : ty j <;> simp [fv_V, up1, hj]
theorem fvl_up {b : Nat} {ty : Nat → FieldType} {fi fl : Nat → Int} {fr : Nat → Option Nat} {k : Nat} {z : Int} (hk : ty k = .long) (j : Nat) : fv_V b (ty j) fi (up1 fl k z) fr j = updV (fun j => fv_V b (ty j) fi fl fr j) k (.long (Int64.ofInt z)) j := by
  by_cases hj : j = k
  · subst hj
    simp [updV, hk, fv_V, up1]
  · simp only [updV, hj, if_false]
    cases hty : ty j <;> simp [fv_V, up1, hj]
theorem fvr_up {b : Nat} {ty : Nat → FieldType} {fi fl : Nat → Int} {fr : Nat → Option Nat} {k : Nat} {z : Option Nat} (hk : (∃ n, ty k = .object n) ∨ ∃ n, ty k = .array n) (j : Nat) : fv_V b (ty j) fi fl (up1 fr k z) j = updV (fun j => fv_V b (ty j) fi fl fr j) k (va_rf (z.map (fun a => b + a))) j := by
  by_cases hj : j = k
  · subst hj
    rcases hk with ⟨n, hk⟩ | ⟨n, hk⟩ <;> simp [updV, hk, fv_V, up1]
  · simp only [updV, hj, if_false]
    cases hty : ty j <;> simp [fv_V, up1, hj]
theorem fit_r {ty : FieldType} (hk : (∃ n, ty = .object n) ∨ ∃ n, ty = .array n) (b : Nat) (z : Option Nat) : narrow ty (va_rf (z.map (fun a => b + a))) = va_rf (z.map (fun a => b + a)) ∧ fits ty (va_rf (z.map (fun a => b + a))) = true := by
  rcases hk with ⟨n, rfl⟩ | ⟨n, rfl⟩ <;> cases z <;> exact ⟨rfl, rfl⟩
theorem fit_b {z : Int} (h : z = 0 ∨ z = 1) : fits .boolean (.int (Int32.ofInt z)) = true := by
  rcases h with rfl | rfl <;> rfl
/-- n cells of a kind -/
theorem c_arr_K {G : cx_T} {U : State} (h : kf_OK G U) : ∀ (k : Nat) (q : ClassId × FieldType), (c_arr G)[k]? = some q → ArrOfT U q.1 q.2 ∧ va_RA U q.1 q.2 := h.1.2
section AWH
variable {G : cx_T} {R : Room} {M : mr_T} {cu su pc : Nat} {L : List (Option av_T)} {st : List av_T} {h : ah_T} {Q : Option av_T → ah_T → Prop}
theorem get_W {own : String} {idx c k : Nat} {ty : FieldType} {fin : Bool} {a n : Nat} (hT : tbl_OK) (hd : decode M.2.1 pc = .ok (.getfield idx, 3)) (hf : fl_OK M.1.cls idx c k ty fin) (hs : h.1[a]? = some (c + 4, n)) (v : av_T) (hv : cv G v = fv_V (cx_b G) ty (h.2.1 a) (h.2.2.1 a) (h.2.2.2 a) k)
    (hnv : hr_OK G h (#[] : Heap) ∨ ((∀ a k, i32 (h.2.1 a k)) → (∀ a k, i64 (h.2.2.1 a k)) → nv v)) (kk : aw G R M cu su (pc + 3) L (v :: st) h Q) : aw G R M cu su pc L (av_R (some a) :: st) h Q := by
  intro p e s m args below meth cd H locs ls S hH hO hS hb hL hn
  obtain ⟨r, h1, h2, ⟨cell, q1, q2, q3, q4⟩, h5⟩ := hH.2.1 a _ _ hs
  obtain ⟨q, g1, g2, g3, g4, g5⟩ := hf
  have hrq : r = q := Option.some.inj (h1.symm.trans g1)
  subst hrq
  obtain ⟨k1, k2, k3, k4, k5, k6⟩ := hT c r g1
  obtain ⟨hS2, hfc, kC, hkC, hkind⟩ := S.2.2.2.2.2.1.1.1 c _ g1
  obtain ⟨cf, kf, fi, f, hi, hsl⟩ := hS2 k g2
  have hnv' : nv v := by
    rcases hnv with z | z
    · exact absurd z.1 (by have := (List.getElem?_eq_some_iff.mp hs).1; simp; omega)
    · exact z hH.2.2.2.1 hH.2.2.2.2
  refine W.getf S.1 S.2.1 S.2.2.2.1 (S.2.2.2.2.1 _ g3) hi (u_facts hfc hkC (u_lays S.2.2.2.2.1 k1 g2) hi).1 q1 (by rw [q3]; exact fun h => by cases h) (v := cv G v) ?_ rfl rfl hd (kk p e s m args below meth cd H locs ls S hH hO hS hb hL (nv_c hnv' (nv_t hn)))
  rw [hsl, q4 k (by rw [h2]; exact g2), hv]
  show some (fv_V _ (f_ty c k) _ _ _ k) = _
  rw [g4]
theorem A_getI {idx c k : Nat} {fin : Bool} {a n : Nat} (hT : tbl_OK) (hd : decode M.2.1 pc = .ok (.getfield idx, 3)) (hf : fl_OK M.1.cls idx c k .int fin) (hs : h.1[a]? = some (c + 4, n)) (kk : aw G R M cu su (pc + 3) L (av_I (h.2.1 a k) :: st) h Q) : aw G R M cu su pc L (av_R (some a) :: st) h Q :=
  get_W (own := "") hT hd hf hs (av_I (h.2.1 a k)) rfl (Or.inr fun z _ => z a k) kk
theorem A_getZ {idx c k : Nat} {fin : Bool} {a n : Nat} (hT : tbl_OK) (hd : decode M.2.1 pc = .ok (.getfield idx, 3)) (hf : fl_OK M.1.cls idx c k .boolean fin) (hs : h.1[a]? = some (c + 4, n)) (kk : (h.2.1 a k = 0 ∨ h.2.1 a k = 1) → aw G R M cu su (pc + 3) L (av_I (h.2.1 a k) :: st) h Q) : aw G R M cu su pc L (av_R (some a) :: st) h Q := by
  intro p e s m args below meth cd H locs ls S hH hO hS hb hL hn
  obtain ⟨r, h1, h2, h3, h4⟩ := hH.2.1 a _ _ hs
  obtain ⟨q, g1, g2, g3, g4, g5⟩ := id hf
  exact get_W (own := "") hT hd hf hs (av_I (h.2.1 a k)) rfl (Or.inr fun z _ => z a k) (kk (h4 k g4)) p e s m args below meth cd H locs ls S hH hO hS hb hL hn
theorem A_getL {idx c k : Nat} {fin : Bool} {a n : Nat} (hT : tbl_OK) (hd : decode M.2.1 pc = .ok (.getfield idx, 3)) (hf : fl_OK M.1.cls idx c k .long fin) (hs : h.1[a]? = some (c + 4, n)) (kk : aw G R M cu su (pc + 3) L (av_L (h.2.2.1 a k) :: st) h Q) : aw G R M cu su pc L (av_R (some a) :: st) h Q :=
  get_W (own := "") hT hd hf hs (av_L (h.2.2.1 a k)) rfl (Or.inr fun _ z => z a k) kk
theorem A_getA {idx c k : Nat} {t : FieldType} {fin : Bool} {a n : Nat} (hT : tbl_OK) (hd : decode M.2.1 pc = .ok (.getfield idx, 3)) (hf : fl_OK M.1.cls idx c k (.array t) fin) (hs : h.1[a]? = some (c + 4, n)) (kk : aw G R M cu su (pc + 3) L (av_R (h.2.2.2 a k) :: st) h Q) : aw G R M cu su pc L (av_R (some a) :: st) h Q :=
  get_W (own := "") hT hd hf hs (av_R (h.2.2.2 a k)) rfl (Or.inr fun _ _ => trivial) kk
theorem A_getO {idx c k : Nat} {t : String} {fin : Bool} {a n : Nat} (hT : tbl_OK) (hd : decode M.2.1 pc = .ok (.getfield idx, 3)) (hf : fl_OK M.1.cls idx c k (.object t) fin) (hs : h.1[a]? = some (c + 4, n)) (kk : aw G R M cu su (pc + 3) L (av_R (h.2.2.2 a k) :: st) h Q) : aw G R M cu su pc L (av_R (some a) :: st) h Q :=
  get_W (own := "") hT hd hf hs (av_R (h.2.2.2 a k)) rfl (Or.inr fun _ _ => trivial) kk
theorem put_W {idx c k : Nat} {ty : FieldType} {fin : Bool} {a n : Nat} {w : av_T} {h' : ah_T} (hT : tbl_OK) (hd : decode M.2.1 pc = .ok (.putfield idx, 3)) (hf : fl_OK M.1.cls idx c k ty fin) (hs : h.1[a]? = some (c + 4, n)) (hfin : fin = false ∨ (M.1.name = "<init>" ∧ ∀ q, classes[c]? = some q → q.1 = M.1.cls))
    (hn0 : nv w → narrow ty (cv G w) = cv G w ∧ fits ty (cv G w) = true) (hsh : h'.1 = h.1) (ho : ∀ x, x ≠ a → h'.2.1 x = h.2.1 x ∧ h'.2.2.1 x = h.2.2.1 x ∧ h'.2.2.2 x = h.2.2.2 x)
    (hr1 : nv w → (∀ k, i32 (h.2.1 a k)) → ∀ k, i32 (h'.2.1 a k)) (hr2 : nv w → (∀ k, i64 (h.2.2.1 a k)) → ∀ k, i64 (h'.2.2.1 a k))
    (hV : f_ty c k = ty → ∀ j, updV (fun j => fv_V (cx_b G) (f_ty c j) (h.2.1 a) (h.2.2.1 a) (h.2.2.2 a) j) k (cv G w) j = fv_V (cx_b G) (f_ty c j) (h'.2.1 a) (h'.2.2.1 a) (h'.2.2.2 a) j) (hb0 : f_ty c k = ty → (∀ j, f_ty c j = .boolean → h.2.1 a j = 0 ∨ h.2.1 a j = 1) → ∀ j, f_ty c j = .boolean → h'.2.1 a j = 0 ∨ h'.2.1 a j = 1)
    (kk : aw G R M cu su (pc + 3) L st h' Q) : aw G R M cu su pc L (w :: av_R (some a) :: st) h Q := by
  intro p e s m args below meth cd H locs ls S hH hO hS hb hL hn
  obtain ⟨r, h1, h2, ⟨cell, q1, q2, q3, q4⟩, h5⟩ := id (hH.2.1 a _ _ hs)
  obtain ⟨q, g1, g2, g3, g4, g5⟩ := hf
  have hrq : r = q := Option.some.inj (h1.symm.trans g1)
  subst hrq
  obtain ⟨k1, k2, k3, k4, k5, k6⟩ := hT c r g1
  have hKn := S.2.2.2.2.2.1.1.1 c _ g1
  obtain ⟨hS2, hfc, kC, hkC, hkind⟩ := id hKn
  obtain ⟨cf, kf, fi, f, hi, hsl⟩ := hS2 k g2
  have hst := (u_facts hfc hkC (u_lays S.2.2.2.2.1 k1 g2) hi).1
  have hdk : parseFieldDescriptor (r.2.1 k).2.2.1 = some ty := by rw [k2 k g2, g4]
  obtain ⟨n1, n2⟩ := hn0 (nv_h hn)
  have hap := va_apart (own := M.1.cls) (T := r.2.1) S.2.2.2.2.1 k1 (f_ty c) k2 k3 S.2.2.2.2.2.1.1 g1
  have fin2 : ∀ H1 : Heap, H1[cx_b G + a]? = some (cell.setSlot f.slot (cv G w)) → H1.size = H.size → (∀ q : Nat, q ≠ cx_b G + a → H1[q]? = H[q]?) → W p (cx_l G) e R s m args below meth cd H1 (locs ++ [⟨cx_b G + a, f.slot⟩]) cu su (MQ below (qc_Q G Q) args s R.cells R.slots (fr_A G)) (F0 m (pc + 3) ls (st.map (cv G))) := by
    intro H1 e1 e2 e3
    rw [hsl] at e1 ⊢
    refine kk p e s m args below meth cd H1 _ ls S ?_ hO (hS.put e2 e3 (Nat.le_add_right _ _)) hb hL (nv_t (nv_t hn))
    refine hr_upd hH hs hsh ho (hr1 (nv_h hn) (hH.2.2.2.1 a)) (hr2 (nv_h hn) (hH.2.2.2.2 a)) e2 e3 ⟨r, g1, h2, ?_, hb0 g4 h5⟩
    refine t_OB.to (V := updV (fun j => fv_V (cx_b G) (f_ty c j) (h.2.1 a) (h.2.2.1 a) (h.2.2.2 a) j) k (cv G w)) ⟨_, e1, q2, q3, ?_⟩ (fun j _ => hV g4 j)
    rw [h2] at q4 ⊢
    exact t_set q4 hap g2 (cv G w)
  rcases hfin with hfin | ⟨hin, hcl⟩
  · have hlay := S.2.2.2.2.1 _ (k1 _ (u_in_lay g2))
    unfold u_lay at hlay
    rw [if_neg (by rw [g5, hfin]; decide)] at hlay
    have h6 := u_store hfc hkC hkind hlay hi hdk n1 n2
    exact W.putK S.1 S.2.1 (f := f) ⟨S.2.2.2.1, S.2.2.2.2.1 _ g3, ⟨_, _, _, hi⟩, hst⟩ (by rw [q2]; exact h6) q1 q3 (by rw [hsl]; exact k2_hasslot (q4 k (by rw [h2]; exact g2))) rfl rfl hd fin2
  · cases fin with
    | false =>
      have hlay := S.2.2.2.2.1 _ (k1 _ (u_in_lay g2))
      unfold u_lay at hlay
      rw [if_neg (by rw [g5]; decide)] at hlay
      have h6 := u_store hfc hkC hkind hlay hi hdk n1 n2
      exact W.putK S.1 S.2.1 (f := f) ⟨S.2.2.2.1, S.2.2.2.2.1 _ g3, ⟨_, _, _, hi⟩, hst⟩ (by rw [q2]; exact h6) q1 q3 (by rw [hsl]; exact k2_hasslot (q4 k (by rw [h2]; exact g2))) rfl rfl hd fin2
    | true =>
      have hlay := S.2.2.2.2.1 _ (k1 _ (u_in_lay g2))
      unfold u_lay at hlay
      rw [if_pos g5] at hlay
      have hcf : m.cls = cf := by
        obtain ⟨_, _, c', _, _, _, -, -, hf', -, -, -, hown2, -⟩ := Cond.laysFinal_spec hlay
        have e1 : c' = cf := by have := hi.symm.trans hf'; simp at this; exact this.1.symm
        rw [k6 k g2, hcl r g1] at hown2
        rw [← e1]; exact Option.some.inj (S.2.2.2.1.symm.trans hown2)
      have h6 := u_fits hfc hkC hkind (Or.inr hlay) hi hdk n1 n2
      exact W.putFinK S.1 S.2.1 S.2.2.2.1 (S.2.2.2.2.1 _ g3) hi hst hcf (S.2.2.2.2.2.2.2.2 hin) (by rw [q2]; exact h6) q1 q3 (by rw [hsl]; exact k2_hasslot (q4 k (by rw [h2]; exact g2))) rfl rfl hd fin2
abbrev fin_OK (M : mr_T) (c : Nat) (fin : Bool) : Prop := fin = false ∨ (M.1.name = "<init>" ∧ ∀ q, classes[c]? = some q → q.1 = M.1.cls)
theorem A_putI {idx c k : Nat} {fin : Bool} {a n : Nat} {z : Int} (hT : tbl_OK) (hd : decode M.2.1 pc = .ok (.putfield idx, 3)) (hf : fl_OK M.1.cls idx c k .int fin) (hs : h.1[a]? = some (c + 4, n)) (hfin : fin_OK M c fin) (kk : aw G R M cu su (pc + 3) L st (st_i h a k z) Q) : aw G R M cu su pc L (av_I z :: av_R (some a) :: st) h Q := by
  refine put_W (h' := st_i h a k z) hT hd hf hs hfin (fun _ => ⟨rfl, rfl⟩) rfl (fun x hx => ⟨up2_n hx, rfl, rfl⟩) (fun hz hr => ?_) (fun _ hr => hr) (fun hty j => ?_) (fun hty hb0 j hj => ?_) kk
  · show ∀ k', i32 (up2 h.2.1 a k z a k')
    rw [up2_s]; exact up1_i32 hr hz
  · show _ = fv_V _ _ (up2 h.2.1 a k z a) _ _ j
    rw [up2_s]; exact (fvi_up (Or.inl hty) j).symm
  · show up2 h.2.1 a k z a j = 0 ∨ up2 h.2.1 a k z a j = 1
    rw [up2_s]
    unfold up1
    by_cases hjk : j = k
    · subst hjk; rw [hty] at hj; cases hj
    · rw [if_neg hjk]; exact hb0 j hj
theorem A_putZ {idx c k : Nat} {fin : Bool} {a n : Nat} {z : Int} (hT : tbl_OK) (hd : decode M.2.1 pc = .ok (.putfield idx, 3)) (hf : fl_OK M.1.cls idx c k .boolean fin) (hs : h.1[a]? = some (c + 4, n)) (hfin : fin_OK M c fin) (h01 : z = 0 ∨ z = 1) (kk : aw G R M cu su (pc + 3) L st (st_i h a k z) Q) : aw G R M cu su pc L (av_I z :: av_R (some a) :: st) h Q := by
  refine put_W (h' := st_i h a k z) hT hd hf hs hfin (fun _ => ⟨nar_b h01, fit_b h01⟩) rfl (fun x hx => ⟨up2_n hx, rfl, rfl⟩) (fun hz hr => ?_) (fun _ hr => hr) (fun hty j => ?_) (fun hty hb0 j hj => ?_) kk
  · show ∀ k', i32 (up2 h.2.1 a k z a k')
    rw [up2_s]; exact up1_i32 hr hz
  · show _ = fv_V _ _ (up2 h.2.1 a k z a) _ _ j
    rw [up2_s]; exact (fvi_up (Or.inr hty) j).symm
  · show up2 h.2.1 a k z a j = 0 ∨ up2 h.2.1 a k z a j = 1
    rw [up2_s]
    unfold up1
    by_cases hjk : j = k
    · rw [if_pos hjk]; exact h01
    · rw [if_neg hjk]; exact hb0 j hj
theorem A_putL {idx c k : Nat} {fin : Bool} {a n : Nat} {z : Int} (hT : tbl_OK) (hd : decode M.2.1 pc = .ok (.putfield idx, 3)) (hf : fl_OK M.1.cls idx c k .long fin) (hs : h.1[a]? = some (c + 4, n)) (hfin : fin_OK M c fin) (kk : aw G R M cu su (pc + 3) L st (st_l h a k z) Q) : aw G R M cu su pc L (av_L z :: av_R (some a) :: st) h Q := by
  refine put_W (h' := st_l h a k z) hT hd hf hs hfin (fun _ => ⟨rfl, rfl⟩) rfl (fun x hx => ⟨rfl, up2_n hx, rfl⟩) (fun _ hr => hr) (fun hz hr => ?_) (fun hty j => ?_) (fun hty hb0 => hb0) kk
  · show ∀ k', i64 (up2 h.2.2.1 a k z a k')
    rw [up2_s]; exact up1_i64 hr hz
  · show _ = fv_V _ _ _ (up2 h.2.2.1 a k z a) _ j
    rw [up2_s]; exact (fvl_up hty j).symm
theorem A_putR {idx c k : Nat} {ty : FieldType} {fin : Bool} {a n : Nat} {z : Option Nat} (hT : tbl_OK) (hd : decode M.2.1 pc = .ok (.putfield idx, 3)) (hf : fl_OK M.1.cls idx c k ty fin) (hty : (∃ n, ty = .object n) ∨ ∃ n, ty = .array n) (hs : h.1[a]? = some (c + 4, n)) (hfin : fin_OK M c fin) (kk : aw G R M cu su (pc + 3) L st (st_r h a k z) Q) : aw G R M cu su pc L (av_R z :: av_R (some a) :: st) h Q := by
  refine put_W (h' := st_r h a k z) hT hd hf hs hfin (fun _ => fit_r hty _ z) rfl (fun x hx => ⟨rfl, rfl, up2_n hx⟩) (fun _ hr => hr) (fun _ hr => hr) (fun hty2 j => ?_) (fun hty hb0 => hb0) kk
  show _ = fv_V _ _ _ _ (up2 h.2.2.2 a k z a) j
  rw [up2_s]; exact (fvr_up (by rw [hty2]; exact hty) j).symm
/-! arrays -/
theorem ix_in {n : Nat} {i : Int} (hi : i32 i) (h0 : 0 ≤ i) (h1 : i < n) (cI : ClassId) (f : Nat → Value) : ¬ (Int32.ofInt i < 0 ∨ (arrV cI n f).slots.size ≤ (Int32.ofInt i).toNatClampNeg) := by
  rw [arrV_size]
  exact i32_in hi h0 h1
theorem ix_rd {n : Nat} {i : Int} (hi : i32 i) (h0 : 0 ≤ i) (h1 : i < n) (cI : ClassId) (f : Nat → Value) : (arrV cI n f).slots[(Int32.ofInt i).toNatClampNeg]? = some (f i.toNat) := by
  rw [i32_cl hi h0, arrV_read _ _ (by omega)]
theorem A_ialoadN {a n : Nat} {i : Int} (hd : decode M.2.1 pc = .ok (.iaload, 1)) (hs : h.1[a]? = some (0, n)) (h0 : 0 ≤ i) (h1 : i < n) (kk : aw G R M cu su (pc + 1) L (av_I (h.2.1 a i.toNat) :: st) h Q) : aw G R M cu su pc L (av_I i :: av_R (some a) :: st) h Q := by
  intro p e s m args below meth cd H locs ls S hH hO hS hb hL hn
  exact W.iald (v := .int (Int32.ofInt (h.2.1 a i.toNat))) S.1 S.2.1 (hH.2.1 a _ _ hs) ((c_arr_K S.2.2.2.2.2.1 0 _ rfl).1 n _) (fun q => by cases q) (ix_in (nv_h hn) h0 h1 _ _) (ix_rd (nv_h hn) h0 h1 _ _) rfl rfl hd (kk p e s m args below meth cd H locs ls S hH hO hS hb hL (nv_c (hH.2.2.2.1 _ _) (nv_t (nv_t hn))))
theorem A_laloadN {a n : Nat} {i : Int} (hd : decode M.2.1 pc = .ok (.laload, 1)) (hs : h.1[a]? = some (1, n)) (h0 : 0 ≤ i) (h1 : i < n) (kk : aw G R M cu su (pc + 1) L (av_L (h.2.2.1 a i.toNat) :: st) h Q) : aw G R M cu su pc L (av_I i :: av_R (some a) :: st) h Q := by
  intro p e s m args below meth cd H locs ls S hH hO hS hb hL hn
  exact W.lald (v := .long (Int64.ofInt (h.2.2.1 a i.toNat))) S.1 S.2.1 (hH.2.1 a _ _ hs) ((c_arr_K S.2.2.2.2.2.1 1 _ rfl).1 n _) (fun q => by cases q) (ix_in (nv_h hn) h0 h1 _ _) (ix_rd (nv_h hn) h0 h1 _ _) rfl rfl hd (kk p e s m args below meth cd H locs ls S hH hO hS hb hL (nv_c (hH.2.2.2.2 _ _) (nv_t (nv_t hn))))
theorem A_zaloadN {a n : Nat} {i : Int} (hd : decode M.2.1 pc = .ok (.baload, 1)) (hs : h.1[a]? = some (2, n)) (h0 : 0 ≤ i) (h1 : i < n) (kk : (h.2.1 a i.toNat = 0 ∨ h.2.1 a i.toNat = 1) → aw G R M cu su (pc + 1) L (av_I (h.2.1 a i.toNat) :: st) h Q) : aw G R M cu su pc L (av_I i :: av_R (some a) :: st) h Q := by
  intro p e s m args below meth cd H locs ls S hH hO hS hb hL hn
  exact W.zald (v := .int (Int32.ofInt (h.2.1 a i.toNat))) S.1 S.2.1 (hH.2.1 a _ _ hs).1 ((c_arr_K S.2.2.2.2.2.1 2 _ rfl).1 n _) (fun q => by cases q) (ix_in (nv_h hn) h0 h1 _ _) (ix_rd (nv_h hn) h0 h1 _ _) rfl rfl hd (kk ((hH.2.1 a _ _ hs).2 _) p e s m args below meth cd H locs ls S hH hO hS hb hL (nv_c (hH.2.2.2.1 _ _) (nv_t (nv_t hn))))
theorem A_aaloadN {a n : Nat} {i : Int} (hd : decode M.2.1 pc = .ok (.aaload, 1)) (hs : h.1[a]? = some (3, n)) (h0 : 0 ≤ i) (h1 : i < n) (kk : aw G R M cu su (pc + 1) L (av_R (h.2.2.2 a i.toNat) :: st) h Q) : aw G R M cu su pc L (av_I i :: av_R (some a) :: st) h Q := by
  intro p e s m args below meth cd H locs ls S hH hO hS hb hL hn
  exact W.aald (v := va_rf ((h.2.2.2 a i.toNat).map (fun a => cx_b G + a))) (ty := .object RX10) S.1 S.2.1 (hH.2.1 a _ _ hs) ((c_arr_K S.2.2.2.2.2.1 3 _ rfl).1 n _) rfl (fun q => by cases q) (ix_in (nv_h hn) h0 h1 _ _) (ix_rd (nv_h hn) h0 h1 _ _) rfl rfl hd (kk p e s m args below meth cd H locs ls S hH hO hS hb hL (nv_c trivial (nv_t (nv_t hn))))
theorem A_iastoreN {a n : Nat} {i z : Int} (hd : decode M.2.1 pc = .ok (.iastore, 1)) (hs : h.1[a]? = some (0, n)) (h0 : 0 ≤ i) (h1 : i < n) (kk : aw G R M cu su (pc + 1) L st (st_i h a i.toNat z) Q) : aw G R M cu su pc L (av_I z :: av_I i :: av_R (some a) :: st) h Q := by
  intro p e s m args below meth cd H locs ls S hH hO hS hb hL hn
  refine W.iast S.1 S.2.1 (hH.2.1 a _ _ hs) ((c_arr_K S.2.2.2.2.2.1 0 _ rfl).1 n _) (fun q => by cases q) (ix_in (nv_h (nv_t hn)) h0 h1 _ _) rfl rfl hd fun H1 e1 e2 e3 => ?_
  refine kk p e s m args below meth cd H1 _ ls S ?_ hO (hS.put e2 e3 (Nat.le_add_right _ _)) hb hL (nv_t (nv_t (nv_t hn)))
  refine hr_upd hH hs rfl (fun x hx => ⟨up2_n hx, rfl, rfl⟩) ?_ (hH.2.2.2.2 a) e2 e3 ?_
  · show ∀ k', i32 (up2 h.2.1 a i.toNat z a k')
    rw [up2_s]; exact up1_i32 (hH.2.2.2.1 a) (nv_h hn)
  · show H1[_]? = some (arrV _ _ fun j => .int (Int32.ofInt (up2 h.2.1 a i.toNat z a j)))
    rw [e1, arrV_store, up2_s, i32_cl (nv_h (nv_t hn)) h0]
    congr 2
    funext j
    by_cases hj : j = i.toNat <;> simp [updV, up1, hj]
theorem A_lastoreN {a n : Nat} {i z : Int} (hd : decode M.2.1 pc = .ok (.lastore, 1)) (hs : h.1[a]? = some (1, n)) (h0 : 0 ≤ i) (h1 : i < n) (kk : aw G R M cu su (pc + 1) L st (st_l h a i.toNat z) Q) : aw G R M cu su pc L (av_L z :: av_I i :: av_R (some a) :: st) h Q := by
  intro p e s m args below meth cd H locs ls S hH hO hS hb hL hn
  refine W.last S.1 S.2.1 (hH.2.1 a _ _ hs) ((c_arr_K S.2.2.2.2.2.1 1 _ rfl).1 n _) (fun q => by cases q) (ix_in (nv_h (nv_t hn)) h0 h1 _ _) rfl rfl hd fun H1 e1 e2 e3 => ?_
  refine kk p e s m args below meth cd H1 _ ls S ?_ hO (hS.put e2 e3 (Nat.le_add_right _ _)) hb hL (nv_t (nv_t (nv_t hn)))
  refine hr_upd hH hs rfl (fun x hx => ⟨rfl, up2_n hx, rfl⟩) (hH.2.2.2.1 a) ?_ e2 e3 ?_
  · show ∀ k', i64 (up2 h.2.2.1 a i.toNat z a k')
    rw [up2_s]; exact up1_i64 (hH.2.2.2.2 a) (nv_h hn)
  · show H1[_]? = some (arrV _ _ fun j => .long (Int64.ofInt (up2 h.2.2.1 a i.toNat z a j)))
    rw [e1, arrV_store, up2_s, i32_cl (nv_h (nv_t hn)) h0]
    congr 2
    funext j
    by_cases hj : j = i.toNat <;> simp [updV, up1, hj]
theorem A_zastoreN {a n : Nat} {i z : Int} (hd : decode M.2.1 pc = .ok (.bastore, 1)) (hs : h.1[a]? = some (2, n)) (h0 : 0 ≤ i) (h1 : i < n) (h01 : z = 0 ∨ z = 1) (kk : aw G R M cu su (pc + 1) L st (st_i h a i.toNat z) Q) : aw G R M cu su pc L (av_I z :: av_I i :: av_R (some a) :: st) h Q := by
  intro p e s m args below meth cd H locs ls S hH hO hS hb hL hn
  refine W.zast S.1 S.2.1 (hH.2.1 a _ _ hs).1 ((c_arr_K S.2.2.2.2.2.1 2 _ rfl).1 n _) (fun q => by cases q) (ix_in (nv_h (nv_t hn)) h0 h1 _ _) rfl rfl hd fun H1 e1 e2 e3 => ?_
  refine kk p e s m args below meth cd H1 _ ls S ?_ hO (hS.put e2 e3 (Nat.le_add_right _ _)) hb hL (nv_t (nv_t (nv_t hn)))
  refine hr_upd hH hs rfl (fun x hx => ⟨up2_n hx, rfl, rfl⟩) ?_ (hH.2.2.2.2 a) e2 e3 ⟨?_, ?_⟩
  · show ∀ k', i32 (up2 h.2.1 a i.toNat z a k')
    rw [up2_s]; exact up1_i32 (hH.2.2.2.1 a) (nv_h hn)
  · show H1[_]? = some (arrV _ _ fun j => .int (Int32.ofInt (up2 h.2.1 a i.toNat z a j)))
    rw [e1, arrV_store, up2_s, i32_cl (nv_h (nv_t hn)) h0, nar_b h01]
    congr 2
    funext j
    by_cases hj : j = i.toNat <;> simp [updV, up1, hj]
  · show ∀ j, up2 h.2.1 a i.toNat z a j = 0 ∨ up2 h.2.1 a i.toNat z a j = 1
    intro j
    rw [up2_s]
    unfold up1
    split
    · exact h01
    · exact (hH.2.1 a _ _ hs).2 j
theorem A_aastoreN {a n v nn : Nat} {i : Int} (hd : decode M.2.1 pc = .ok (.aastore, 1)) (hs : h.1[a]? = some (3, n)) (hs2 : h.1[v]? = some (10 + 4, nn)) (h0 : 0 ≤ i) (h1 : i < n) (kk : aw G R M cu su (pc + 1) L st (st_r h a i.toNat (some v)) Q) : aw G R M cu su pc L (av_R (some v) :: av_I i :: av_R (some a) :: st) h Q := by
  intro p e s m args below meth cd H locs ls S hH hO hS hb hL hn
  obtain ⟨r, r1, r2, ⟨cellV, g1, g2, g3, -⟩, -⟩ := hH.2.1 v _ _ hs2
  have hr : r = (RX10, TX10, 17) := Option.some.inj (r1.symm.trans rfl)
  subst hr
  have hcls := (S.2.2.2.2.2.1.1.1 10 _ rfl).2
  obtain ⟨kA, comp, k1, k2, k3, -⟩ := (c_arr_K S.2.2.2.2.2.1 3 _ rfl).2
  have hcomp : comp = cx_dC G 10 := Option.some.inj (k3.symm.trans hcls.1)
  subst hcomp
  obtain ⟨kC, hkC, -⟩ := hcls.2
  have hin := i32_in (nv_h (nv_t hn)) h0 h1
  refine W.aast S.1 S.2.1 (hH.2.1 a _ _ hs) (fun q h => by cases h) (fun h => by cases h) k1 k2 rfl hkC ⟨fun q => hin (Or.inl q), by rw [arrV_size]; exact Nat.not_le.mp fun q => hin (Or.inr q)⟩ g1 (fun q h => by rw [g3] at h; cases h) (by rw [g2]; exact hkC) (by rw [g2]; exact va_assign hcls) rfl rfl hd fun H1 e1 e2 e3 => ?_
  refine kk p e s m args below meth cd H1 _ ls S ?_ hO (hS.put e2 e3 (Nat.le_add_right _ _)) hb hL (nv_t (nv_t (nv_t hn)))
  refine hr_upd hH hs rfl (fun x hx => ⟨rfl, rfl, up2_n hx⟩) (hH.2.2.2.1 a) (hH.2.2.2.2 a) e2 e3 ?_
  show H1[_]? = some (arrV _ _ fun j => va_rf ((up2 h.2.2.2 a i.toNat (some v) a j).map _))
  rw [e1, arrV_store, up2_s, i32_cl (nv_h (nv_t hn)) h0]
  congr 2
  funext j
  by_cases hj : j = i.toNat <;> simp [updV, up1, hj, va_rf]
theorem A_alenN {a kd n : Nat} (hd : decode M.2.1 pc = .ok (.arraylength, 1)) (hs : h.1[a]? = some (kd, n)) (hkd : kd < 4) (hnn : n < 2147483648) (kk : aw G R M cu su (pc + 1) L (av_I (n : Int) :: st) h Q) : aw G R M cu su pc L (av_R (some a) :: st) h Q := by
  intro p e s m args below meth cd H locs ls S hH hO hS hb hL hn
  have hc := hH.2.1 a _ _ hs
  have hk := kk p e s m args below meth cd H locs ls S hH hO hS hb hL (nv_c (by show i32 _; unfold i32; omega) (nv_t hn))
  have hI : Int32.ofInt (n : Int) = Int32.ofNat n := rfl
  match kd, hkd, hc with
  | 0, _, hc => exact W.alen (n := Int32.ofInt (n : Int)) S.1 S.2.1 hc ((c_arr_K S.2.2.2.2.2.1 0 _ rfl).1 n _) (by rw [arrV_size]; rfl) rfl rfl hd hk
  | 1, _, hc => exact W.alen (n := Int32.ofInt (n : Int)) S.1 S.2.1 hc ((c_arr_K S.2.2.2.2.2.1 1 _ rfl).1 n _) (by rw [arrV_size]; rfl) rfl rfl hd hk
  | 2, _, hc => exact W.alen (n := Int32.ofInt (n : Int)) S.1 S.2.1 hc.1 ((c_arr_K S.2.2.2.2.2.1 2 _ rfl).1 n _) (by rw [arrV_size]; rfl) rfl rfl hd hk
  | 3, _, hc => exact W.alen (n := Int32.ofInt (n : Int)) S.1 S.2.1 hc ((c_arr_K S.2.2.2.2.2.1 3 _ rfl).1 n _) (by rw [arrV_size]; rfl) rfl rfl hd hk
theorem A_ialoadS {k : Nat} {i : Int} (hd : decode M.2.1 pc = .ok (.iaload, 1)) (hk : k < n_RO) (h0 : 0 ≤ i) (h1 : i < cx_rl G k) (kk : aw G R M cu su (pc + 1) L (av_I (cx_rv G k i.toNat) :: st) h Q) : aw G R M cu su pc L (av_I i :: av_S k :: st) h Q := by
  intro p e s m args below meth cd H locs ls S hH hO hS hb hL hn
  exact va_ti S.1 S.2.1 (hO.1 k hk).1 hS (i32_in (nv_h hn) h0 h1) (v := .int (Int32.ofInt (cx_rv G k i.toNat))) (by rw [i32_cl (nv_h hn) h0]) hd (kk p e s m args below meth cd H locs ls S hH hO hS hb hL (nv_c ((hO.1 k hk).2 _) (nv_t (nv_t hn))))
theorem A_alenS {k : Nat} (hd : decode M.2.1 pc = .ok (.arraylength, 1)) (hk : k < n_RO) (hl : cx_rl G k < 2147483648) (kk : aw G R M cu su (pc + 1) L (av_I (cx_rl G k : Int) :: st) h Q) : aw G R M cu su pc L (av_S k :: st) h Q := by
  intro p e s m args below meth cd H locs ls S hH hO hS hb hL hn
  exact va_tlen S.1 S.2.1 (hO.1 k hk).1 hS (v := Int32.ofInt (cx_rl G k : Int)) rfl hd (kk p e s m args below meth cd H locs ls S hH hO hS hb hL (nv_c (by show i32 _; unfold i32; omega) (nv_t hn)))
end AWH

/-! ===== rows that make cells, and calls ===== -/
theorem st_n_OK {G : cx_T} {h : ah_T} {H H1 : Heap} (hH : hr_OK G h H) {kd n : Nat} (z : H1.size = H.size + 1) (oq : ∀ q : Nat, q < H.size → H1[q]? = H[q]?) (hc : cell_R G kd n (fun _ => 0) (fun _ => 0) (fun _ => none) H.size H1) : hr_OK G (st_n h kd n) H1 := by
  obtain ⟨h1, h2, h3, h4, h5⟩ := id hH
  refine ⟨by rw [z, h1]; simp [st_n]; omega, fun x kx nx hx => ?_, fun x hx k => ?_, h4, h5⟩
  · show cell_R G kx nx (h.2.1 x) (h.2.2.1 x) (h.2.2.2 x) (cx_b G + x) H1
    by_cases hl : x < h.1.length
    · have hx2 : (h.1 ++ [(kd, n)])[x]? = some (kx, nx) := hx
      rw [List.getElem?_append_left hl] at hx2
      exact (h2 x kx nx hx2).kept (oq _ (by rw [h1]; omega))
    · have hx2 : (h.1 ++ [(kd, n)])[x]? = some (kx, nx) := hx
      rw [List.getElem?_append_right (by omega)] at hx2
      have hz : x - h.1.length < 1 := (List.getElem?_eq_some_iff.mp hx2).1
      have hxe : x = h.1.length := by omega
      subst hxe
      rw [Nat.sub_self] at hx2
      cases hx2
      have e1 : h.2.1 h.1.length = fun _ => 0 := funext fun k => (h3 _ (Nat.le_refl _) k).1
      have e2 : h.2.2.1 h.1.length = fun _ => 0 := funext fun k => (h3 _ (Nat.le_refl _) k).2.1
      have e3 : h.2.2.2 h.1.length = fun _ => none := funext fun k => (h3 _ (Nat.le_refl _) k).2.2
      rw [e1, e2, e3, ← h1]
      exact hc
  · have hx2 : (h.1 ++ [(kd, n)]).length ≤ x := hx
    rw [List.length_append, List.length_singleton] at hx2
    exact h3 x (by omega) k
theorem va_S_new {A : Nat → Prop} {H0 H H1 : Heap} {locs : List Loc} (hS : va_S A H0 H locs) (z : H1.size = H.size + 1) (oq : ∀ q : Nat, q < H.size → H1[q]? = H[q]?) : va_S A H0 H1 locs :=
  ⟨Nat.le_trans hS.1 (by omega), fun x h1 h2 => (oq x (Nat.lt_of_lt_of_le h1 hS.1)).trans (hS.2.1 x h1 h2), hS.2.2⟩
theorem c_arr_0 {G : cx_T} {U : State} (h : kf_OK G U) {cA : ClassId} (hN : U.vm.findClass ("[" ++ (newarray.typeOf .int).toString) = some cA) : cA = cx_cA G 0 := by
  have h2 : U.vm.findClass ("[" ++ (FieldType.int).toString) = some (cx_cA G 0) := (c_arr_K h 0 _ rfl).2
  exact Option.some.inj (hN.symm.trans h2)
theorem c_arr_1 {G : cx_T} {U : State} (h : kf_OK G U) {cA : ClassId} (hN : U.vm.findClass ("[" ++ (newarray.typeOf .long).toString) = some cA) : cA = cx_cA G 1 := by
  have h2 : U.vm.findClass ("[" ++ (FieldType.long).toString) = some (cx_cA G 1) := (c_arr_K h 1 _ rfl).2
  exact Option.some.inj (hN.symm.trans h2)
theorem c_arr_2 {G : cx_T} {U : State} (h : kf_OK G U) {cA : ClassId} (hN : U.vm.findClass ("[" ++ (newarray.typeOf .boolean).toString) = some cA) : cA = cx_cA G 2 := by
  have h2 : U.vm.findClass ("[" ++ (FieldType.boolean).toString) = some (cx_cA G 2) := (c_arr_K h 2 _ rfl).2
  exact Option.some.inj (hN.symm.trans h2)
section AWN
variable {G : cx_T} {R : Room} {M : mr_T} {cu su pc : Nat} {L : List (Option av_T)} {st : List av_T} {h : ah_T} {Q : Option av_T → ah_T → Prop}
theorem A_newI {z : Int} (hd : decode M.2.1 pc = .ok (.newarray .int, 2)) (hac : Cond.arrayClass .int ∈ gw) (h0 : 0 ≤ z) (hz : z ≤ 60000000) (hc : cu + 1 ≤ R.cells) (hsl : su + z.toNat ≤ R.slots) (kk : aw G R M (cu + 1) (su + z.toNat) (pc + 2) L (av_R (some h.1.length) :: st) (st_n h 0 z.toNat) Q) : aw G R M cu su pc L (av_I z :: st) h Q := by
  intro p e s m args below meth cd H locs ls S hH hO hS hb hL hn
  have hcl := i32_cl (nv_h hn) h0
  refine va_newaK (atype := .int) S.1 S.2.1 (S.2.2.2.2.1 _ hac) rfl hd rfl (N := z.toNat) (fun q => by have := (i32_lt (nv_h hn) i32_0).mp q; omega) hcl (by show z.toNat * 4 ≤ _; omega) hc hsl rfl fun H1 cA e1 z1 o1 hAr hNm => ?_
  have hcA : cA = cx_cA G 0 := c_arr_0 S.2.2.2.2.2.1 hNm
  subst hcA
  have hk := kk p e s m args below meth cd H1 locs ls S (st_n_OK hH z1 o1 e1) hO (va_S_new hS z1 o1) hb hL (nv_c trivial (nv_t hn))
  rw [hH.1]
  exact hk
theorem A_newL {z : Int} (hd : decode M.2.1 pc = .ok (.newarray .long, 2)) (hac : Cond.arrayClass .long ∈ gw) (h0 : 0 ≤ z) (hz : z ≤ 60000000) (hc : cu + 1 ≤ R.cells) (hsl : su + z.toNat ≤ R.slots) (kk : aw G R M (cu + 1) (su + z.toNat) (pc + 2) L (av_R (some h.1.length) :: st) (st_n h 1 z.toNat) Q) : aw G R M cu su pc L (av_I z :: st) h Q := by
  intro p e s m args below meth cd H locs ls S hH hO hS hb hL hn
  have hcl := i32_cl (nv_h hn) h0
  refine va_newaK (atype := .long) S.1 S.2.1 (S.2.2.2.2.1 _ hac) rfl hd rfl (N := z.toNat) (fun q => by have := (i32_lt (nv_h hn) i32_0).mp q; omega) hcl (by show z.toNat * 8 ≤ _; omega) hc hsl rfl fun H1 cA e1 z1 o1 hAr hNm => ?_
  have hcA : cA = cx_cA G 1 := c_arr_1 S.2.2.2.2.2.1 hNm
  subst hcA
  have hk := kk p e s m args below meth cd H1 locs ls S (st_n_OK hH z1 o1 e1) hO (va_S_new hS z1 o1) hb hL (nv_c trivial (nv_t hn))
  rw [hH.1]
  exact hk
theorem A_newZ {z : Int} (hd : decode M.2.1 pc = .ok (.newarray .boolean, 2)) (hac : Cond.arrayClass .boolean ∈ gw) (h0 : 0 ≤ z) (hz : z ≤ 60000000) (hc : cu + 1 ≤ R.cells) (hsl : su + z.toNat ≤ R.slots) (kk : aw G R M (cu + 1) (su + z.toNat) (pc + 2) L (av_R (some h.1.length) :: st) (st_n h 2 z.toNat) Q) : aw G R M cu su pc L (av_I z :: st) h Q := by
  intro p e s m args below meth cd H locs ls S hH hO hS hb hL hn
  have hcl := i32_cl (nv_h hn) h0
  refine va_newaK (atype := .boolean) S.1 S.2.1 (S.2.2.2.2.1 _ hac) rfl hd rfl (N := z.toNat) (fun q => by have := (i32_lt (nv_h hn) i32_0).mp q; omega) hcl (by show z.toNat * 1 ≤ _; omega) hc hsl rfl fun H1 cA e1 z1 o1 hAr hNm => ?_
  have hcA : cA = cx_cA G 2 := c_arr_2 S.2.2.2.2.2.1 hNm
  subst hcA
  have hk := kk p e s m args below meth cd H1 locs ls S (st_n_OK hH z1 o1 ⟨e1, fun _ => Or.inl rfl⟩) hO (va_S_new hS z1 o1) hb hL (nv_c trivial (nv_t hn))
  rw [hH.1]
  exact hk
theorem A_newV {z : Int} {idx : Nat} (hd : decode M.2.1 pc = .ok (.anewarray idx, 3)) (hcl : Cond.classLink M.1.cls idx RX10 ∈ gw) (hov : Cond.arrayOver (.object RX10) ∈ lw_tbl) (h0 : 0 ≤ z) (hz : z ≤ 60000000) (hc : cu + 1 ≤ R.cells) (hsl : su + z.toNat ≤ R.slots) (kk : aw G R M (cu + 1) (su + z.toNat) (pc + 3) L (av_R (some h.1.length) :: st) (st_n h 3 z.toNat) Q) : aw G R M cu su pc L (av_I z :: st) h Q := by
  intro p e s m args below meth cd H locs ls S hH hO hS hb hL hn
  have hcl2 := i32_cl (nv_h hn) h0
  refine W.anew S.1 S.2.1 S.2.2.2.1 (S.2.2.2.2.1 _ hcl) (va_AO.use (S.2.2.2.2.2.1.2 _ hov rfl)) rfl hd rfl (fun q => by have := (i32_lt (nv_h hn) i32_0).mp q; omega) (by rw [hcl2]; omega) hc (by rw [hcl2]; exact hsl) fun cA kA comp f1 f2 f3 f4 => ?_
  obtain ⟨kA', comp', k1, k2, k3, k4⟩ := (c_arr_K S.2.2.2.2.2.1 3 _ rfl).2
  have hcA : cA = cx_cA G 3 := Option.some.inj (f1.symm.trans k4)
  subst hcA
  rw [hcl2]
  generalize hH1 : H.push ({ cls := cx_cA G 3, slots := Array.replicate z.toNat .null, vm := .none } : Cell) = H1
  have z1 : H1.size = H.size + 1 := by rw [← hH1, Array.size_push]
  have e1 : H1[H.size]? = some (arrV (cx_cA G 3) z.toNat (fun _ => .null)) := by rw [← hH1, Array.getElem?_push_size, ← arrV_new]
  have o1 : ∀ q : Nat, q < H.size → H1[q]? = H[q]? := fun q hq => by rw [← hH1, Array.getElem?_push, if_neg (Nat.ne_of_lt hq)]
  have hk := kk p e s m args below meth cd H1 locs ls S (st_n_OK hH z1 o1 e1) hO (va_S_new hS z1 o1) hb hL (nv_c trivial (nv_t hn))
  rw [hH.1]
  exact hk
theorem dv_fv (ty : FieldType) (b j : Nat) (h : ty = .int ∨ ty = .boolean ∨ ty = .long ∨ (∃ n, ty = .object n) ∨ ∃ n, ty = .array n) : defaultValue ty = fv_V b ty (fun _ => 0) (fun _ => 0) (fun _ => none) j := by
  rcases h with rfl | rfl | rfl | ⟨n, rfl⟩ | ⟨n, rfl⟩ <;> rfl
def tbl_K : Prop := ∀ c q, classes[c]? = some q → ∀ k, k < q.2.2 → f_ty c k = .int ∨ f_ty c k = .boolean ∨ f_ty c k = .long ∨ (∃ n, f_ty c k = .object n) ∨ ∃ n, f_ty c k = .array n
theorem A_new {idx c : Nat} {q : vw_C} (hT : tbl_OK) (hTK : tbl_K) (hd : decode M.2.1 pc = .ok (.new idx, 3)) (hq : classes[c]? = some q) (hcl : Cond.classLink M.1.cls idx q.1 ∈ gw) (hc : cu + 1 ≤ R.cells) (hsl : su + q.2.2 ≤ R.slots) (kk : aw G R M (cu + 1) (su + q.2.2) (pc + 3) L (av_R (some h.1.length) :: st) (st_n h (c + 4) q.2.2) Q) : aw G R M cu su pc L st h Q := by
  intro p e s m args below meth cd H locs ls S hH hO hS hb hL hn
  obtain ⟨k1, k2, k3, k4, k5, k6⟩ := hT c q hq
  have hKn := S.2.2.2.2.2.1.1.1 c _ hq
  refine W.newcK S.1 S.2.1 S.2.2.2.1 (S.2.2.2.2.1 _ hcl) (S.2.2.2.2.1 _ k4) (S.2.2.2.2.1 _ k5) rfl hd hc hsl hKn.2.1 rfl fun H1 kC hkC e1 z1 o1 => ?_
  have hob := u_born (f_ty c) S.2.2.2.2.1 k1 hKn hkC e1 k2
  have hk := kk p e s m args below meth cd H1 locs ls S (st_n_OK hH z1 o1 ⟨q, hq, rfl, hob.to (fun j hj => dv_fv (f_ty c j) _ j (hTK c q hq j hj)), fun _ _ => Or.inl rfl⟩) hO (va_S_new hS z1 o1) hb hL (nv_c trivial hn)
  rw [hH.1]
  exact hk
theorem A_objInit {idx : Nat} {a : Nat} (hd : decode M.2.1 pc = .ok (.invokespecial idx, 3)) (hl : Cond.methodLink M.1.cls idx Lib.objectInit ∈ gw) (hi : Cond.instanceMethod Lib.objectInit ∈ gw) (hc : Cond.code Lib.objectInit ⟨#[0xb1]⟩ 1 none ∈ gw) (hR : 1 ≤ R.frames ∧ 12 ≤ R.locals) (hst : st = []) (kk : aw G R M cu su (pc + 3) L st h Q) : aw G R M cu su pc L (av_R (some a) :: st) h Q := by
  intro p e s m args below meth cd H locs ls S hH hO hS hb hL hn
  subst hst
  exact W.objInit S.1 S.2.1 S.2.2.2.1 (S.2.2.2.2.1 _ hl) (S.2.2.2.2.1 _ hi) (S.2.2.2.2.1 _ hc) rfl (by show ls.size = _; rw [hL.2.1, S.2.2.1]) rfl hd hR.1 (by simpa [JFrame.monitorRoom] using hR.2) (kk p e s m args below meth cd H locs ls S hH hO hS hb hL (nv_t hn))
/-! calls -/
def rp_R (r : Option av_T) (st : List av_T) : List av_T := match r with
  | none => st
  | some v => v :: st
theorem rp_map (G : cx_T) (r : Option av_T) (st : List av_T) : (rp_R r st).map (cv G) = (r.map (cv G)).toList ++ st.map (cv G) := by
  cases r <;> rfl
def Pc_B (G : cx_T) (h : ah_T) : State → Prop := fun U => hr_OK G h U.heap ∧ ro_OK G U U.heap ∧ kf_OK G U ∧ cx_b G ≤ U.heap.size
theorem nw_same {u U : State} (h : nw_OK u) (hv : u.vm = U.vm) : nw_OK U := by
  intro w hw hn
  have h1 := h w hw hn
  have hal : u.vm.Alike U.vm := by rw [hv]; exact Vm.Alike.refl U.vm
  cases w <;> first | exact va_Nw.same rfl hv h1 | (simp [nestW] at hn; done) | skip
  rename_i ty
  cases ty <;> first | exact va_AO.moved hal h1 | (simp [nestW] at hn; done)
theorem Pc_blind {G : cx_T} {h : ah_T} {As : List Value} : FrameBlind (va_Pc As (Pc_B G h)) := by
  intro a U g mk hp
  obtain ⟨h1, h2, h3, h4, h5⟩ := hp
  exact ⟨h1, h2, ro_to (s := U) (U := U.calling g mk a) h3 (fun _ _ _ => rfl) (Vm.Alike.refl U.vm) (fun _ _ _ _ q => vk_R.same (u := U) rfl q), ⟨va_K.moved (u := U) (U := U.calling g mk a) (Vm.Alike.refl U.vm) h4.1, nw_same h4.2 rfl⟩, h5⟩
theorem Pc_pre {G : cx_T} {h : ah_T} {M : mr_T} {p : Program} {s : State} {m : MethodId} {args : Array Value} {meth : Method} {c : Code} {H : Heap} {locs : List Loc} (S : st_OK G M p s m args meth c) (hH : hr_OK G h H) (hO : ro_OK G s s.heap) (hS : va_S (fr_A G) s.heap H locs) (hb : cx_b G ≤ s.heap.size) (As : List Value) (U : State) (hU : U.heap = H) (hW : s.WarmedH U.vm) : va_Pc As (Pc_B G h) As.toArray U :=
  ⟨rfl, by rw [hU]; exact hH, by rw [hU]; exact ro_to hO hS.2.1 hW.alike (fun _ _ _ _ q => q.warm hW), ⟨va_K.moved hW.alike S.2.2.2.2.2.1.1, S.2.2.2.2.2.1.2.moved hW⟩, by rw [hU]; exact Nat.le_trans hb hS.1⟩
abbrev md_OK (y : MethodName) (np : Nat) : Prop := y.cls ≠ "java/lang/invoke/MethodHandle" ∧ y.cls ≠ "java/lang/invoke/VarHandle" ∧ (parseMethodDescriptor y.desc).map (fun d => d.parameters.length) = some np
/-- what the tables say of a method that is called: 0 static, 1 of an object, 2 a constructor -/
def mt_OK (N : mr_T) (np kind : Nat) : Prop := mr_w N ∈ gw ∧ Cond.initialized N.1.cls ∈ gw ∧ md_OK N.1 np ∧ (kind = 0 → Cond.static N.1 ∈ gw) ∧ (kind = 1 → Cond.instanceMethod N.1 ∈ gw ∧ Cond.selects N.1.cls N.1 N.1 ∈ gw) ∧ (kind = 2 → Cond.instanceMethod N.1 ∈ gw ∧ N.1.name = "<init>" ∧ N.2.2.2 = none)
def ml_OK (own : String) (idx : Nat) (y : MethodName) : Prop := Cond.methodLink own idx y ∈ gw ∨ ∃ host, Cond.methodLinkNest own idx y host ∈ lw_tbl
theorem acall {Qa : Option av_T → ah_T → Prop} {mc ms : Nat} {p : Program} {e : Env} {s : State} {m : MethodId} {args : Array Value} {below : List Frame} {meth : Method} {cd : Code} {H : Heap} {locs : List Loc} {ls : Array Slot} {st0 : List Value} {a : Array Value}
    (hr : va_Run p (cx_l G) e R s m args below meth cd H locs cu su mc ms (F0 m pc ls st0) (st.map (cv G)) (qc_Q G Qa a) (fr_A G)) (S : st_OK G M p s m args meth cd) (hO : ro_OK G s s.heap) (hS : va_S (fr_A G) s.heap H locs) (hb : cx_b G ≤ s.heap.size) (hL : lr_OK G M.2.2.1 L ls) (hn : ∀ v ∈ st, nv v)
    (kk : ∀ r h', Qa r h' → aw G R M (cu + mc) (su + ms) (pc + 3) L (rp_R r st) h' Q) : W p (cx_l G) e R s m args below meth cd H locs cu su (MQ below (qc_Q G Q) args s R.cells R.slots (fr_A G)) (F0 m pc ls st0) := by
  intro T hT X
  obtain ⟨v, st₀, t, T', LL, h0, X', hLL, e1, e2, ⟨⟨r, h', hv, hnv, hQ, hH', hO'⟩, hz, hk⟩, stp⟩ := hr T hT X
  have hv2 : v = r.map (cv G) := Outcome.returned.inj hv
  subst hv2
  rw [h0] at hz hk
  have hk2 := kk r h' hQ p e s m args below meth cd T'.heap (locs ++ LL) ls S (by rw [e1]; exact hH') hO
    ⟨Nat.le_trans hS.1 (by rw [e1]; exact hz), fun q h1 h2 => by rw [e1, hk q (Nat.lt_of_lt_of_le h1 hS.1) h2]; exact hS.2.1 q h1 h2, fun q hq => by
      rcases List.mem_append.mp hq with h | h
      · exact hS.2.2 q h
      · exact hLL q h⟩ hb hL (by
      cases r with
      | none => exact hn
      | some w => exact nv_c (hnv w rfl) hn)
  rw [rp_map] at hk2
  obtain ⟨t2, a1, b1⟩ := hk2 T' rfl X'
  exact ⟨t2, stp t2 a1, b1⟩
theorem gi_M {N : mr_T} (h : mr_w N ∈ gw) : GoodIn gw (mr_w N :: gw) := by
  intro w hw
  rcases List.mem_cons.mp hw with rfl | h1
  · exact gw_ok _ h
  · exact gw_ok _ h1
abbrev rm_OK (R : Room) (d : Nat) (N : mr_T) : Prop := d + 1 ≤ R.frames ∧ 8 + (N.2.2.1 + 11) + 48 * d ≤ R.locals
theorem cat_sum (G : cx_T) {st : List av_T} (h : st.length ≤ 4) : ((st.map (cv G)).map fun v => v.category).sum ≤ 8 := by
  have key : ∀ l : List av_T, ((l.map (cv G)).map fun v => v.category).sum ≤ 2 * l.length := by
    intro l
    induction l with
    | nil => simp
    | cons v l ih =>
      have h2 : (cv G v).category ≤ 2 := by
        rcases v with z | z | d | r | k
        · exact (by decide : (1 : Nat) ≤ 2)
        · exact (by decide : (2 : Nat) ≤ 2)
        · exact (by decide : (2 : Nat) ≤ 2)
        · cases r <;> exact (by decide : (1 : Nat) ≤ 2)
        · exact (by decide : (1 : Nat) ≤ 2)
      simp only [List.map_cons, List.sum_cons, List.length_cons]
      omega
  have := key st
  omega
theorem A_callS {Qa : Option av_T → ah_T → Prop} {idx d mc ms np : Nat} {N : mr_T} (As : List av_T) (hd : decode M.2.1 pc = .ok (.invokestatic idx, 3)) (hl : ml_OK M.1.cls idx N.1) (hm : mt_OK N np 0) (hnp : As.length = np) (hR : rm_OK R d N) (hf : cu + mc ≤ R.cells ∧ su + ms ≤ R.slots) (hst : st.length ≤ 4) (hM : con G d mc ms N As h Qa) (stk : List av_T) (hstk : stk = As.reverse ++ st)
    (kk : ∀ r h', Qa r h' → aw G R M (cu + mc) (su + ms) (pc + 3) L (rp_R r st) h' Q) : aw G R M cu su pc L stk h Q := by
  intro p e s m args below meth cd H locs ls S hH hO hS hb hL hn
  subst hstk
  obtain ⟨c1, c2, c3, c4, -, -⟩ := hm
  have hnA : ∀ v ∈ As, nv v := fun v hv => hn v (List.mem_append_left _ (List.mem_reverse.mpr hv))
  have hns : ∀ v ∈ st, nv v := fun v hv => hn v (List.mem_append_right _ hv)
  have hMet := hM hnA
  have hp : PreS s H (va_Pc (As.map (cv G)) (Pc_B G h)) (As.map (cv G)) := ⟨Pc_blind, fun U hU hW => Pc_pre S hH hO hS hb _ U hU hW⟩
  have hstack : (F0 m pc ls ((As.reverse ++ st).map (cv G))).stack = (As.map (cv G)).reverse ++ st.map (cv G) := by simp
  rcases hl with hl | ⟨host, hl⟩
  · exact acall (va_runS ⟨S.1, S.2.1, rfl, S.2.2.2.1, S.2.2.2.2.1⟩ hMet ⟨callB_of (ws' := gw) (index := idx) np S.2.2.2.2.1 (gi_M c1) rfl rfl rfl (S.2.2.2.2.1 _ c2) (S.2.2.2.2.1 _ hl) c3 hR, S.2.2.2.2.1 _ (c4 rfl)⟩ hp rfl (by rw [List.length_map]; exact hnp) (by show ls.size = _; rw [hL.2.1, S.2.2.1]) hstack (lv_room (cat_sum G hst)) hd hf) S hO hS hb hL hns kk
  · exact acall (va_runSN (host := host) ⟨S.1, S.2.1, rfl, S.2.2.2.1, S.2.2.2.2.1⟩ hMet ⟨va_cnB (ws' := gw) (index := idx) np S.2.2.2.2.1 (gi_M c1) rfl rfl rfl (S.2.2.2.2.2.1.2 _ hl rfl) (S.2.2.2.2.1 _ c2) c3 hR, S.2.2.2.2.1 _ (c4 rfl), trivial⟩ hp rfl (by rw [List.length_map]; exact hnp) (by show ls.size = _; rw [hL.2.1, S.2.2.1]) hstack (lv_room (cat_sum G hst)) hd hf) S hO hS hb hL hns kk
theorem A_callV {Qa : Option av_T → ah_T → Prop} {idx d mc ms np c nn a : Nat} {N : mr_T} (As : List av_T) (hT : tbl_OK) (hd : decode M.2.1 pc = .ok (.invokevirtual idx, 3)) (hl : ml_OK M.1.cls idx N.1) (hm : mt_OK N np 1) (hnp : As.length = np) (hs : h.1[a]? = some (c + 4, nn)) (hcl : (classes[c]?).map (fun q => q.1) = some N.1.cls) (hR : rm_OK R d N) (hf : cu + mc ≤ R.cells ∧ su + ms ≤ R.slots) (hst : st.length ≤ 4) (hM : con G d mc ms N (av_R (some a) :: As) h Qa) (stk : List av_T) (hstk : stk = As.reverse ++ av_R (some a) :: st)
    (kk : ∀ r h', Qa r h' → aw G R M (cu + mc) (su + ms) (pc + 3) L (rp_R r st) h' Q) : aw G R M cu su pc L stk h Q := by
  intro p e s m args below meth cd H locs ls S hH hO hS hb hL hn
  subst hstk
  obtain ⟨c1, c2, c3, -, c4, -⟩ := hm
  obtain ⟨c5, c6⟩ := c4 rfl
  have hnA : ∀ v ∈ av_R (some a) :: As, nv v := nv_c trivial (fun v hv => hn v (List.mem_append_left _ (List.mem_reverse.mpr hv)))
  have hns : ∀ v ∈ st, nv v := fun v hv => hn v (List.mem_append_right _ (List.mem_cons_of_mem _ hv))
  have hMet := hM hnA
  obtain ⟨q, g1, g2, ⟨cell, q1, q2, q3, -⟩, -⟩ := hH.2.1 a _ _ hs
  have hqc : q.1 = N.1.cls := by rw [g1] at hcl; exact Option.some.inj hcl
  have hrecv : ∃ cellB : Cell, H[cx_b G + a]? = some cellB ∧ cellB.vm.isStatics = false ∧ s.vm.findClass N.1.cls = some cellB.cls := ⟨cell, q1, by rw [q3]; rfl, by rw [q2, ← hqc]; exact (S.2.2.2.2.2.1.1.1 c _ g1).2.1⟩
  have hp : PreV s H N.1.cls (cx_b G + a) (va_Pc ((av_R (some a) :: As).map (cv G)) (Pc_B G h)) (As.map (cv G)) := ⟨Pc_blind, hrecv, fun U hU hW => Pc_pre S hH hO hS hb _ U hU hW⟩
  have hstack : (F0 m pc ls ((As.reverse ++ av_R (some a) :: st).map (cv G))).stack = (As.map (cv G)).reverse ++ .ref (cx_b G + a) :: st.map (cv G) := by
    show List.map (cv G) (As.reverse ++ av_R (some a) :: st) = _
    rw [List.map_append, List.map_reverse]
    rfl
  rcases hl with hl | ⟨host, hl⟩
  · exact acall (va_runV (b := cx_b G + a) (C := N.1.cls) ⟨S.1, S.2.1, rfl, S.2.2.2.1, S.2.2.2.2.1⟩ hMet ⟨callB_of (ws' := gw) (index := idx) np S.2.2.2.2.1 (gi_M c1) rfl rfl rfl (S.2.2.2.2.1 _ c2) (S.2.2.2.2.1 _ hl) c3 hR, S.2.2.2.2.1 _ c5, S.2.2.2.2.1 _ c6⟩ hp rfl (by rw [List.length_map]; exact hnp) (by show ls.size = _; rw [hL.2.1, S.2.2.1]) hstack (lv_room (cat_sum G hst)) hd hf) S hO hS hb hL hns kk
  · exact acall (va_runVN (b := cx_b G + a) (C := N.1.cls) (host := host) ⟨S.1, S.2.1, rfl, S.2.2.2.1, S.2.2.2.2.1⟩ hMet ⟨va_cnB (ws' := gw) (index := idx) np S.2.2.2.2.1 (gi_M c1) rfl rfl rfl (S.2.2.2.2.2.1.2 _ hl rfl) (S.2.2.2.2.1 _ c2) c3 hR, S.2.2.2.2.1 _ c5, S.2.2.2.2.1 _ c6⟩ hp rfl (by rw [List.length_map]; exact hnp) (by show ls.size = _; rw [hL.2.1, S.2.2.1]) hstack (lv_room (cat_sum G hst)) hd hf) S hO hS hb hL hns kk
theorem A_callI {Qa : Option av_T → ah_T → Prop} {idx d mc ms np a : Nat} {y : MethodName} {by0 : ByteArray} {ml : Nat} (As : List av_T) (hd : decode M.2.1 pc = .ok (.invokespecial idx, 3)) (hl : ml_OK M.1.cls idx y) (hm : mt_OK (y, by0, ml, none) np 2) (hnp : As.length = np) (hR : rm_OK R d (y, by0, ml, none)) (hf : cu + mc ≤ R.cells ∧ su + ms ≤ R.slots) (hst : st.length ≤ 4) (hM : con G d mc ms (y, by0, ml, none) (av_R (some a) :: As) h Qa) (stk : List av_T) (hstk : stk = As.reverse ++ av_R (some a) :: st)
    (kk : ∀ r h', Qa r h' → aw G R M (cu + mc) (su + ms) (pc + 3) L (rp_R r st) h' Q) : aw G R M cu su pc L stk h Q := by
  intro p e s m args below meth cd H locs ls S hH hO hS hb hL hn
  subst hstk
  obtain ⟨c1, c2, c3, -, -, c4⟩ := hm
  obtain ⟨c5, c6, -⟩ := c4 rfl
  have hnA : ∀ v ∈ av_R (some a) :: As, nv v := nv_c trivial (fun v hv => hn v (List.mem_append_left _ (List.mem_reverse.mpr hv)))
  have hns : ∀ v ∈ st, nv v := fun v hv => hn v (List.mem_append_right _ (List.mem_cons_of_mem _ hv))
  have hMet := hM hnA
  have hp : PreS s H (va_Pc ((av_R (some a) :: As).map (cv G)) (Pc_B G h)) (.ref (cx_b G + a) :: As.map (cv G)) := ⟨Pc_blind, fun U hU hW => Pc_pre S hH hO hS hb _ U hU hW⟩
  have hstack : (F0 m pc ls ((As.reverse ++ av_R (some a) :: st).map (cv G))).stack = (As.map (cv G)).reverse ++ .ref (cx_b G + a) :: st.map (cv G) := by
    show List.map (cv G) (As.reverse ++ av_R (some a) :: st) = _
    rw [List.map_append, List.map_reverse]
    rfl
  rcases hl with hl | ⟨host, hl⟩
  · exact acall (va_runI (b := cx_b G + a) ⟨S.1, S.2.1, rfl, S.2.2.2.1, S.2.2.2.2.1⟩ hMet ⟨callB_of (ws' := gw) (index := idx) np S.2.2.2.2.1 (gi_M c1) rfl rfl rfl (S.2.2.2.2.1 _ c2) (S.2.2.2.2.1 _ hl) c3 hR, c6, S.2.2.2.2.1 _ c5⟩ hp rfl (by rw [List.length_map]; exact hnp) (by show ls.size = _; rw [hL.2.1, S.2.2.1]) hstack (lv_room (cat_sum G hst)) hd hf) S hO hS hb hL hns kk
  · exact acall (va_runIN (b := cx_b G + a) (host := host) ⟨S.1, S.2.1, rfl, S.2.2.2.1, S.2.2.2.2.1⟩ hMet ⟨va_cnB (ws' := gw) (index := idx) np S.2.2.2.2.1 (gi_M c1) rfl rfl rfl (S.2.2.2.2.2.1.2 _ hl rfl) (S.2.2.2.2.1 _ c2) c3 hR, c6, S.2.2.2.2.1 _ c5⟩ hp rfl (by rw [List.length_map]; exact hnp) (by show ls.size = _; rw [hL.2.1, S.2.2.1]) hstack (lv_room (cat_sum G hst)) hd hf) S hO hS hb hL hns kk
end AWN
/-! a contract out of a walk -/
def arg_l : List av_T → List (Option av_T)
  | [] => []
  | v :: vs => match cat2 v with
    | true => some v :: none :: arg_l vs
    | false => some v :: arg_l vs
def arg_L (n : Nat) (As : List av_T) : List (Option av_T) := arg_l As ++ List.replicate (n - (arg_l As).length) none
theorem arg_sl (G : cx_T) : ∀ As : List av_T, (lg_sl (As.map (cv G))).length = (arg_l As).length
  | [] => rfl
  | v :: vs => by
    have ih := arg_sl G vs
    have hc := cv_cat (G := G) v
    unfold lg_sl at ih ⊢
    rw [List.map_cons, List.flatMap_cons, List.length_append, ih]
    cases h2 : cat2 v
    · rw [h2] at hc
      have : ¬ (cv G v).category = 2 := by simpa using hc
      simp [arg_l, h2, this]; omega
    · rw [h2] at hc
      have : (cv G v).category = 2 := by simpa using hc
      simp [arg_l, h2, this]; omega
theorem arg_at (G : cx_T) : ∀ (As : List av_T) (i k : Nat) (v : av_T), (arg_l As)[k]? = some (some v) → (i + k, cv G v) ∈ lv_args i (As.map (cv G)) ∧ v ∈ As
  | [], i, k, v, h => by simp [arg_l] at h
  | w :: vs, i, k, v, h => by
    have hc := cv_cat (G := G) w
    cases h2 : cat2 w
    · rw [h2] at hc
      have hc2 : ¬ (cv G w).category = 2 := by simpa using hc
      simp only [arg_l, h2] at h
      rw [List.map_cons]
      cases k with
      | zero =>
        rw [List.getElem?_cons_zero] at h
        cases h
        exact ⟨List.mem_cons_self, List.mem_cons_self⟩
      | succ k =>
        rw [List.getElem?_cons_succ] at h
        obtain ⟨a1, a2⟩ := arg_at G vs (i + 1) k v h
        refine ⟨?_, List.mem_cons_of_mem _ a2⟩
        unfold lv_args
        rw [if_neg hc2]
        refine List.mem_cons_of_mem _ ?_
        rw [show i + (k + 1) = i + 1 + k by omega]
        exact a1
    · rw [h2] at hc
      have hc2 : (cv G w).category = 2 := by simpa using hc
      simp only [arg_l, h2] at h
      rw [List.map_cons]
      match k, h with
      | 0, h =>
        rw [List.getElem?_cons_zero] at h
        cases h
        exact ⟨List.mem_cons_self, List.mem_cons_self⟩
      | 1, h =>
        rw [List.getElem?_cons_succ, List.getElem?_cons_zero] at h
        simp at h
      | k + 2, h =>
        rw [List.getElem?_cons_succ, List.getElem?_cons_succ] at h
        obtain ⟨a1, a2⟩ := arg_at G vs (i + 2) k v h
        refine ⟨?_, List.mem_cons_of_mem _ a2⟩
        unfold lv_args
        rw [if_pos hc2]
        refine List.mem_cons_of_mem _ ?_
        rw [show i + (k + 2) = i + 2 + k by omega]
        exact a1
theorem lr_entry {G : cx_T} {n : Nat} {As : List av_T} (hn : ∀ v ∈ As, nv v) (hl : (arg_l As).length ≤ n) : lr_OK G n (arg_L n As) ((lg_sl (As.map (cv G)) ++ List.replicate (n - (lg_sl (As.map (cv G))).length) Slot.unset).toArray) := by
  have h1 := lv_entry (As.map (cv G)) (n := n) (by rw [arg_sl]; exact hl)
  refine ⟨by simp [arg_L]; omega, h1.1, h1.2.1, fun k v hk => ?_⟩
  unfold arg_L at hk
  by_cases hkl : k < (arg_l As).length
  · rw [List.getElem?_append_left hkl] at hk
    obtain ⟨a1, a2⟩ := arg_at G As 0 k v hk
    rw [Nat.zero_add] at a1
    exact ⟨h1.2.2 _ a1, hn v a2⟩
  · rw [List.getElem?_append_right (by omega), List.getElem?_replicate] at hk
    split at hk <;> simp at hk
theorem con_of {G : cx_T} {d mc ms : Nat} {M : mr_T} {As : List av_T} {h : ah_T} {Q : Option av_T → ah_T → Prop} (hy : plainName M.1.cls = true) (hl : (arg_l As).length ≤ M.2.2.1) {L : List (Option av_T)} (hL : arg_L M.2.2.1 As = L)
    (k : aw G (rm_R d mc ms) M 0 0 0 L [] h Q) : con G d mc ms M As h Q := by
  intro hn
  subst hL
  refine Met.ofW (cc := M.2.1) (maxL := M.2.2.1) (ret := M.2.2.2) hy rfl ?_
  intro p e s m args below meth c s₁ B hml hv
  obtain ⟨rfl, hH, hO, hK, hb⟩ := hv
  have hts := atoms_spec (ws := mr_w M :: gw) B.pre
  rw [lg_entry_eq]
  exact k p e s m _ below meth c s.heap [] _ ⟨B.exec, B.bytes, hml, findClass_of_methodNamed B.named, fun w hw => hts w (List.mem_cons_of_mem _ hw), hK, B.returns, B.notSynchronized, fun hi => ((name_of_methodNamed B.named B.method).1).trans hi⟩ hH hO va_S.rf hb (lr_entry hn hl) (fun v hv => by cases hv)

/-! ===== rows with the value told, stores that name the heap ===== -/
theorem st_n_len (h : ah_T) (kd n : Nat) : (st_n h kd n).1.length = h.1.length + 1 := by simp [st_n]
theorem st_n_at {h : ah_T} (kd n : Nat) {x : Nat} {y : Nat × Nat} (hx : h.1[x]? = some y) : (st_n h kd n).1[x]? = some y := by
  show (h.1 ++ [(kd, n)])[x]? = some y
  rw [List.getElem?_append_left (List.getElem?_eq_some_iff.mp hx).1]
  exact hx
theorem st_n_last (h : ah_T) (kd n q : Nat) (hq : h.1.length = q) : (st_n h kd n).1[q]? = some (kd, n) := by
  show (h.1 ++ [(kd, n)])[q]? = some (kd, n)
  subst hq
  simp
/-- shapes behind a store -/
theorem sp_i {h h' : ah_T} {a k : Nat} {z : Int} (e : h' = st_i h a k z) {x : Nat} {y : Option (Nat × Nat)} (hx : h.1[x]? = y) : h'.1[x]? = y := by subst e; exact hx
theorem sp_l {h h' : ah_T} {a k : Nat} {z : Int} (e : h' = st_l h a k z) {x : Nat} {y : Option (Nat × Nat)} (hx : h.1[x]? = y) : h'.1[x]? = y := by subst e; exact hx
theorem sp_r {h h' : ah_T} {a k : Nat} {z : Option Nat} (e : h' = st_r h a k z) {x : Nat} {y : Option (Nat × Nat)} (hx : h.1[x]? = y) : h'.1[x]? = y := by subst e; exact hx
theorem sn_i {h h' : ah_T} {a k : Nat} {z : Int} (e : h' = st_i h a k z) {n : Nat} (hx : h.1.length = n) : h'.1.length = n := by subst e; exact hx
theorem sn_l {h h' : ah_T} {a k : Nat} {z : Int} (e : h' = st_l h a k z) {n : Nat} (hx : h.1.length = n) : h'.1.length = n := by subst e; exact hx
theorem sn_r {h h' : ah_T} {a k : Nat} {z : Option Nat} (e : h' = st_r h a k z) {n : Nat} (hx : h.1.length = n) : h'.1.length = n := by subst e; exact hx
/-- ints read behind stores: the same place, another place, another kind -/
theorem ri_s {h h' : ah_T} {a k : Nat} {z : Int} (e : h' = st_i h a k z) : h'.2.1 a k = z := by subst e; exact up2_at
theorem ri_o {h h' : ah_T} {a k x y : Nat} {z v : Int} (e : h' = st_i h a k z) (hn : ¬ (x = a ∧ y = k)) (hv : h.2.1 x y = v) : h'.2.1 x y = v := by subst e; exact (up2_o hn).trans hv
theorem ri_l {h h' : ah_T} {a k x y : Nat} {z v : Int} (e : h' = st_l h a k z) (hv : h.2.1 x y = v) : h'.2.1 x y = v := by subst e; exact hv
theorem ri_r {h h' : ah_T} {a k x y : Nat} {z : Option Nat} {v : Int} (e : h' = st_r h a k z) (hv : h.2.1 x y = v) : h'.2.1 x y = v := by subst e; exact hv
theorem ri_n {h h' : ah_T} {a k x y : Nat} {v : Int} (e : h' = st_n h a k) (hv : h.2.1 x y = v) : h'.2.1 x y = v := by subst e; exact hv
theorem rl_s {h h' : ah_T} {a k : Nat} {z : Int} (e : h' = st_l h a k z) : h'.2.2.1 a k = z := by subst e; exact up2_at
theorem rl_o {h h' : ah_T} {a k x y : Nat} {z v : Int} (e : h' = st_l h a k z) (hn : ¬ (x = a ∧ y = k)) (hv : h.2.2.1 x y = v) : h'.2.2.1 x y = v := by subst e; exact (up2_o hn).trans hv
theorem rl_i {h h' : ah_T} {a k x y : Nat} {z v : Int} (e : h' = st_i h a k z) (hv : h.2.2.1 x y = v) : h'.2.2.1 x y = v := by subst e; exact hv
theorem rl_r {h h' : ah_T} {a k x y : Nat} {z : Option Nat} {v : Int} (e : h' = st_r h a k z) (hv : h.2.2.1 x y = v) : h'.2.2.1 x y = v := by subst e; exact hv
theorem rr_s {h h' : ah_T} {a k : Nat} {z : Option Nat} (e : h' = st_r h a k z) : h'.2.2.2 a k = z := by subst e; exact up2_at
theorem rr_o {h h' : ah_T} {a k x y : Nat} {z v : Option Nat} (e : h' = st_r h a k z) (hn : ¬ (x = a ∧ y = k)) (hv : h.2.2.2 x y = v) : h'.2.2.2 x y = v := by subst e; exact (up2_o hn).trans hv
theorem rr_i {h h' : ah_T} {a k x y : Nat} {z : Int} {v : Option Nat} (e : h' = st_i h a k z) (hv : h.2.2.2 x y = v) : h'.2.2.2 x y = v := by subst e; exact hv
theorem rr_l {h h' : ah_T} {a k x y : Nat} {z : Int} {v : Option Nat} (e : h' = st_l h a k z) (hv : h.2.2.2 x y = v) : h'.2.2.2 x y = v := by subst e; exact hv
theorem rr_n {h h' : ah_T} {a k x y : Nat} {v : Option Nat} (e : h' = st_n h a k) (hv : h.2.2.2 x y = v) : h'.2.2.2 x y = v := by subst e; exact hv
theorem ty_a {t : FieldType} : (∃ n, FieldType.array t = .object n) ∨ ∃ n, FieldType.array t = .array n := Or.inr ⟨_, rfl⟩
theorem ty_o {t : String} : (∃ n, FieldType.object t = .object n) ∨ ∃ n, FieldType.object t = .array n := Or.inl ⟨_, rfl⟩
theorem fin_f {M : mr_T} {c : Nat} : fin_OK M c false := Or.inl rfl
theorem n1_s (h : ah_T) (kd n : Nat) : (st_n h kd n).1 = h.1 ++ [(kd, n)] := rfl
theorem i1_s (h : ah_T) (a k : Nat) (z : Int) : (st_i h a k z).1 = h.1 := rfl
theorem l1_s (h : ah_T) (a k : Nat) (z : Int) : (st_l h a k z).1 = h.1 := rfl
theorem r1_s (h : ah_T) (a k : Nat) (z : Option Nat) : (st_r h a k z).1 = h.1 := rfl
theorem n1_r (h : ah_T) (kd n x y : Nat) : (st_n h kd n).2.2.2 x y = h.2.2.2 x y := rfl
theorem i1_r (h : ah_T) (a k : Nat) (z : Int) (x y : Nat) : (st_i h a k z).2.2.2 x y = h.2.2.2 x y := rfl
theorem l1_r (h : ah_T) (a k : Nat) (z : Int) (x y : Nat) : (st_l h a k z).2.2.2 x y = h.2.2.2 x y := rfl
theorem r1_r {h : ah_T} {a k : Nat} {z : Option Nat} {x y : Nat} (hx : x ≠ a) : (st_r h a k z).2.2.2 x y = h.2.2.2 x y := by
  show up2 h.2.2.2 a k z x y = _
  rw [up2_n hx]
section AWV
variable {G : cx_T} {R : Room} {M : mr_T} {cu su pc : Nat} {L : List (Option av_T)} {st : List av_T} {h : ah_T} {Q : Option av_T → ah_T → Prop}
theorem A_iaddv {x y z : Int} (hd : decode M.2.1 pc = .ok (.iadd, 1)) (hz : w32 (x + y) = z) (k : aw G R M cu su (pc + 1) L (av_I z :: st) h Q) : aw G R M cu su pc L (av_I y :: av_I x :: st) h Q := A_iadd hd (by rw [hz]; exact k)
theorem A_isubv {x y z : Int} (hd : decode M.2.1 pc = .ok (.isub, 1)) (hz : w32 (x - y) = z) (k : aw G R M cu su (pc + 1) L (av_I z :: st) h Q) : aw G R M cu su pc L (av_I y :: av_I x :: st) h Q := A_isub hd (by rw [hz]; exact k)
theorem A_imulv {x y z : Int} (hd : decode M.2.1 pc = .ok (.imul, 1)) (hz : w32 (x * y) = z) (k : aw G R M cu su (pc + 1) L (av_I z :: st) h Q) : aw G R M cu su pc L (av_I y :: av_I x :: st) h Q := A_imul hd (by rw [hz]; exact k)
theorem A_laddv {x y z : Int} (hd : decode M.2.1 pc = .ok (.ladd, 1)) (hz : w64 (x + y) = z) (k : aw G R M cu su (pc + 1) L (av_L z :: st) h Q) : aw G R M cu su pc L (av_L y :: av_L x :: st) h Q := A_ladd hd (by rw [hz]; exact k)
theorem A_lsubv {x y z : Int} (hd : decode M.2.1 pc = .ok (.lsub, 1)) (hz : w64 (x - y) = z) (k : aw G R M cu su (pc + 1) L (av_L z :: st) h Q) : aw G R M cu su pc L (av_L y :: av_L x :: st) h Q := A_lsub hd (by rw [hz]; exact k)
theorem A_lmulv {x y z : Int} (hd : decode M.2.1 pc = .ok (.lmul, 1)) (hz : w64 (x * y) = z) (k : aw G R M cu su (pc + 1) L (av_L z :: st) h Q) : aw G R M cu su pc L (av_L y :: av_L x :: st) h Q := A_lmul hd (by rw [hz]; exact k)
theorem A_inegv {x z : Int} (hd : decode M.2.1 pc = .ok (.ineg, 1)) (hz : w32 (-x) = z) (k : aw G R M cu su (pc + 1) L (av_I z :: st) h Q) : aw G R M cu su pc L (av_I x :: st) h Q := A_ineg hd (by rw [hz]; exact k)
theorem A_lnegv {x z : Int} (hd : decode M.2.1 pc = .ok (.lneg, 1)) (hz : w64 (-x) = z) (k : aw G R M cu su (pc + 1) L (av_L z :: st) h Q) : aw G R M cu su pc L (av_L x :: st) h Q := A_lneg hd (by rw [hz]; exact k)
theorem A_l2iv {x z : Int} (hd : decode M.2.1 pc = .ok (.l2i, 1)) (hz : w32 x = z) (k : aw G R M cu su (pc + 1) L (av_I z :: st) h Q) : aw G R M cu su pc L (av_L x :: st) h Q := A_l2i hd (by rw [hz]; exact k)
theorem A_lcmpv {x y z : Int} (hd : decode M.2.1 pc = .ok (.lcmp, 1)) (hz : cmp_I x y = z) (k : aw G R M cu su (pc + 1) L (av_I z :: st) h Q) : aw G R M cu su pc L (av_L y :: av_L x :: st) h Q := A_lcmp hd (by rw [hz]; exact k)
theorem A_iandv {x y z : Int} (hd : decode M.2.1 pc = .ok (.iand, 1)) (hz : (Int32.ofInt x &&& Int32.ofInt y).toInt = z) (k : aw G R M cu su (pc + 1) L (av_I z :: st) h Q) : aw G R M cu su pc L (av_I y :: av_I x :: st) h Q := A_iand hd (by rw [hz]; exact k)
theorem A_iorv {x y z : Int} (hd : decode M.2.1 pc = .ok (.ior, 1)) (hz : (Int32.ofInt x ||| Int32.ofInt y).toInt = z) (k : aw G R M cu su (pc + 1) L (av_I z :: st) h Q) : aw G R M cu su pc L (av_I y :: av_I x :: st) h Q := A_ior hd (by rw [hz]; exact k)
theorem A_ixorv {x y z : Int} (hd : decode M.2.1 pc = .ok (.ixor, 1)) (hz : (Int32.ofInt x ^^^ Int32.ofInt y).toInt = z) (k : aw G R M cu su (pc + 1) L (av_I z :: st) h Q) : aw G R M cu su pc L (av_I y :: av_I x :: st) h Q := A_ixor hd (by rw [hz]; exact k)
theorem A_ishlv {x y z : Int} (hd : decode M.2.1 pc = .ok (.ishl, 1)) (hz : (Int32.ofInt x <<< (Int32.ofInt y &&& 31)).toInt = z) (k : aw G R M cu su (pc + 1) L (av_I z :: st) h Q) : aw G R M cu su pc L (av_I y :: av_I x :: st) h Q := A_ishl hd (by rw [hz]; exact k)
theorem A_ishrv {x y z : Int} (hd : decode M.2.1 pc = .ok (.ishr, 1)) (hz : (Int32.ofInt x >>> (Int32.ofInt y &&& 31)).toInt = z) (k : aw G R M cu su (pc + 1) L (av_I z :: st) h Q) : aw G R M cu su pc L (av_I y :: av_I x :: st) h Q := A_ishr hd (by rw [hz]; exact k)
theorem A_iincv {i : Nat} {n x z : Int} {L' : List (Option av_T)} (hd : decode M.2.1 pc = .ok (.iinc i n, 3)) (hx : L[i]? = some (some (av_I x))) (hz : w32 (x + n) = z) (hl : lst1 L i (av_I z) = L') (k : aw G R M cu su (pc + 3) L' st h Q) : aw G R M cu su pc L st h Q := A_iinc hd hx (by rw [hz]; exact hl) k
theorem A_getIv {idx c k : Nat} {fin : Bool} {a n : Nat} {z : Int} (hT : tbl_OK) (hd : decode M.2.1 pc = .ok (.getfield idx, 3)) (hf : fl_OK M.1.cls idx c k .int fin) (hs : h.1[a]? = some (c + 4, n)) (hv : h.2.1 a k = z) (kk : aw G R M cu su (pc + 3) L (av_I z :: st) h Q) : aw G R M cu su pc L (av_R (some a) :: st) h Q := A_getI hT hd hf hs (by rw [hv]; exact kk)
theorem A_getZv {idx c k : Nat} {fin : Bool} {a n : Nat} {z : Int} (hT : tbl_OK) (hd : decode M.2.1 pc = .ok (.getfield idx, 3)) (hf : fl_OK M.1.cls idx c k .boolean fin) (hs : h.1[a]? = some (c + 4, n)) (hv : h.2.1 a k = z) (kk : (z = 0 ∨ z = 1) → aw G R M cu su (pc + 3) L (av_I z :: st) h Q) : aw G R M cu su pc L (av_R (some a) :: st) h Q := A_getZ hT hd hf hs (fun q => by rw [hv] at q ⊢; exact kk q)
theorem A_getLv {idx c k : Nat} {fin : Bool} {a n : Nat} {z : Int} (hT : tbl_OK) (hd : decode M.2.1 pc = .ok (.getfield idx, 3)) (hf : fl_OK M.1.cls idx c k .long fin) (hs : h.1[a]? = some (c + 4, n)) (hv : h.2.2.1 a k = z) (kk : aw G R M cu su (pc + 3) L (av_L z :: st) h Q) : aw G R M cu su pc L (av_R (some a) :: st) h Q := A_getL hT hd hf hs (by rw [hv]; exact kk)
theorem A_getAv {idx c k : Nat} {t : FieldType} {fin : Bool} {a n : Nat} {z : Option Nat} (hT : tbl_OK) (hd : decode M.2.1 pc = .ok (.getfield idx, 3)) (hf : fl_OK M.1.cls idx c k (.array t) fin) (hs : h.1[a]? = some (c + 4, n)) (hv : h.2.2.2 a k = z) (kk : aw G R M cu su (pc + 3) L (av_R z :: st) h Q) : aw G R M cu su pc L (av_R (some a) :: st) h Q := A_getA hT hd hf hs (by rw [hv]; exact kk)
theorem A_getOv {idx c k : Nat} {t : String} {fin : Bool} {a n : Nat} {z : Option Nat} (hT : tbl_OK) (hd : decode M.2.1 pc = .ok (.getfield idx, 3)) (hf : fl_OK M.1.cls idx c k (.object t) fin) (hs : h.1[a]? = some (c + 4, n)) (hv : h.2.2.2 a k = z) (kk : aw G R M cu su (pc + 3) L (av_R z :: st) h Q) : aw G R M cu su pc L (av_R (some a) :: st) h Q := A_getO hT hd hf hs (by rw [hv]; exact kk)
theorem A_ialoadv {a n : Nat} {i z : Int} (hd : decode M.2.1 pc = .ok (.iaload, 1)) (hs : h.1[a]? = some (0, n)) (h0 : 0 ≤ i) (h1 : i < n) (hv : h.2.1 a i.toNat = z) (kk : aw G R M cu su (pc + 1) L (av_I z :: st) h Q) : aw G R M cu su pc L (av_I i :: av_R (some a) :: st) h Q := A_ialoadN hd hs h0 h1 (by rw [hv]; exact kk)
theorem A_laloadv {a n : Nat} {i z : Int} (hd : decode M.2.1 pc = .ok (.laload, 1)) (hs : h.1[a]? = some (1, n)) (h0 : 0 ≤ i) (h1 : i < n) (hv : h.2.2.1 a i.toNat = z) (kk : aw G R M cu su (pc + 1) L (av_L z :: st) h Q) : aw G R M cu su pc L (av_I i :: av_R (some a) :: st) h Q := A_laloadN hd hs h0 h1 (by rw [hv]; exact kk)
theorem A_aaloadv {a n : Nat} {i : Int} {z : Option Nat} (hd : decode M.2.1 pc = .ok (.aaload, 1)) (hs : h.1[a]? = some (3, n)) (h0 : 0 ≤ i) (h1 : i < n) (hv : h.2.2.2 a i.toNat = z) (kk : aw G R M cu su (pc + 1) L (av_R z :: st) h Q) : aw G R M cu su pc L (av_I i :: av_R (some a) :: st) h Q := A_aaloadN hd hs h0 h1 (by rw [hv]; exact kk)
theorem A_putIv {idx c k : Nat} {fin : Bool} {a n : Nat} {z : Int} (hT : tbl_OK) (hd : decode M.2.1 pc = .ok (.putfield idx, 3)) (hf : fl_OK M.1.cls idx c k .int fin) (hs : h.1[a]? = some (c + 4, n)) (hfin : fin_OK M c fin) (kk : ∀ h', h' = st_i h a k z → aw G R M cu su (pc + 3) L st h' Q) : aw G R M cu su pc L (av_I z :: av_R (some a) :: st) h Q := A_putI hT hd hf hs hfin (kk _ rfl)
theorem A_putLv {idx c k : Nat} {fin : Bool} {a n : Nat} {z : Int} (hT : tbl_OK) (hd : decode M.2.1 pc = .ok (.putfield idx, 3)) (hf : fl_OK M.1.cls idx c k .long fin) (hs : h.1[a]? = some (c + 4, n)) (hfin : fin_OK M c fin) (kk : ∀ h', h' = st_l h a k z → aw G R M cu su (pc + 3) L st h' Q) : aw G R M cu su pc L (av_L z :: av_R (some a) :: st) h Q := A_putL hT hd hf hs hfin (kk _ rfl)
theorem A_putZv {idx c k : Nat} {fin : Bool} {a n : Nat} {z : Int} (hT : tbl_OK) (hd : decode M.2.1 pc = .ok (.putfield idx, 3)) (hf : fl_OK M.1.cls idx c k .boolean fin) (hs : h.1[a]? = some (c + 4, n)) (hfin : fin_OK M c fin) (h01 : z = 0 ∨ z = 1) (kk : ∀ h', h' = st_i h a k z → aw G R M cu su (pc + 3) L st h' Q) : aw G R M cu su pc L (av_I z :: av_R (some a) :: st) h Q := A_putZ hT hd hf hs hfin h01 (kk _ rfl)
theorem A_putRv {idx c k : Nat} {ty : FieldType} {fin : Bool} {a n : Nat} {z : Option Nat} (hT : tbl_OK) (hd : decode M.2.1 pc = .ok (.putfield idx, 3)) (hf : fl_OK M.1.cls idx c k ty fin) (hty : (∃ n, ty = .object n) ∨ ∃ n, ty = .array n) (hs : h.1[a]? = some (c + 4, n)) (hfin : fin_OK M c fin) (kk : ∀ h', h' = st_r h a k z → aw G R M cu su (pc + 3) L st h' Q) : aw G R M cu su pc L (av_R z :: av_R (some a) :: st) h Q := A_putR hT hd hf hty hs hfin (kk _ rfl)
theorem A_iastorev {a n j : Nat} {i z : Int} (hd : decode M.2.1 pc = .ok (.iastore, 1)) (hs : h.1[a]? = some (0, n)) (h0 : 0 ≤ i) (h1 : i < n) (hj : i.toNat = j) (kk : ∀ h', h' = st_i h a j z → aw G R M cu su (pc + 1) L st h' Q) : aw G R M cu su pc L (av_I z :: av_I i :: av_R (some a) :: st) h Q := A_iastoreN hd hs h0 h1 (by subst hj; exact kk _ rfl)
theorem A_lastorev {a n j : Nat} {i z : Int} (hd : decode M.2.1 pc = .ok (.lastore, 1)) (hs : h.1[a]? = some (1, n)) (h0 : 0 ≤ i) (h1 : i < n) (hj : i.toNat = j) (kk : ∀ h', h' = st_l h a j z → aw G R M cu su (pc + 1) L st h' Q) : aw G R M cu su pc L (av_L z :: av_I i :: av_R (some a) :: st) h Q := A_lastoreN hd hs h0 h1 (by subst hj; exact kk _ rfl)
theorem A_zastorev {a n j : Nat} {i z : Int} (hd : decode M.2.1 pc = .ok (.bastore, 1)) (hs : h.1[a]? = some (2, n)) (h0 : 0 ≤ i) (h1 : i < n) (hj : i.toNat = j) (h01 : z = 0 ∨ z = 1) (kk : ∀ h', h' = st_i h a j z → aw G R M cu su (pc + 1) L st h' Q) : aw G R M cu su pc L (av_I z :: av_I i :: av_R (some a) :: st) h Q := A_zastoreN hd hs h0 h1 h01 (by subst hj; exact kk _ rfl)
theorem A_aastorev {a n v nn j : Nat} {i : Int} (hd : decode M.2.1 pc = .ok (.aastore, 1)) (hs : h.1[a]? = some (3, n)) (hs2 : h.1[v]? = some (10 + 4, nn)) (h0 : 0 ≤ i) (h1 : i < n) (hj : i.toNat = j) (kk : ∀ h', h' = st_r h a j (some v) → aw G R M cu su (pc + 1) L st h' Q) : aw G R M cu su pc L (av_R (some v) :: av_I i :: av_R (some a) :: st) h Q := A_aastoreN hd hs hs2 h0 h1 (by subst hj; exact kk _ rfl)
theorem A_newIv {z : Int} {q N : Nat} (hd : decode M.2.1 pc = .ok (.newarray .int, 2)) (hac : Cond.arrayClass .int ∈ gw) (hz : z = (N : Int)) (hz2 : N ≤ 60000000) (hc : cu + 1 ≤ R.cells) (hsl : su + N ≤ R.slots) (hq : h.1.length = q) (kk : (∀ h', h' = st_n h 0 N → h'.1.length = q + 1 → (∀ (x : Nat) (y : Nat × Nat), h.1[x]? = some y → h'.1[x]? = some y) → aw G R M (cu + 1) (su + N) (pc + 2) L (av_R (some q) :: st) h' Q)) : aw G R M cu su pc L (av_I z :: st) h Q := by
  subst hz; subst hq
  refine A_newI hd hac (by omega) (by omega) hc (by rw [Int.toNat_natCast]; exact hsl) ?_
  rw [Int.toNat_natCast]
  exact kk _ rfl (st_n_len _ _ _) (fun x y hx => st_n_at _ _ hx)
theorem A_newLv {z : Int} {q N : Nat} (hd : decode M.2.1 pc = .ok (.newarray .long, 2)) (hac : Cond.arrayClass .long ∈ gw) (hz : z = (N : Int)) (hz2 : N ≤ 60000000) (hc : cu + 1 ≤ R.cells) (hsl : su + N ≤ R.slots) (hq : h.1.length = q) (kk : (∀ h', h' = st_n h 1 N → h'.1.length = q + 1 → (∀ (x : Nat) (y : Nat × Nat), h.1[x]? = some y → h'.1[x]? = some y) → aw G R M (cu + 1) (su + N) (pc + 2) L (av_R (some q) :: st) h' Q)) : aw G R M cu su pc L (av_I z :: st) h Q := by
  subst hz; subst hq
  refine A_newL hd hac (by omega) (by omega) hc (by rw [Int.toNat_natCast]; exact hsl) ?_
  rw [Int.toNat_natCast]
  exact kk _ rfl (st_n_len _ _ _) (fun x y hx => st_n_at _ _ hx)
theorem A_newZv {z : Int} {q N : Nat} (hd : decode M.2.1 pc = .ok (.newarray .boolean, 2)) (hac : Cond.arrayClass .boolean ∈ gw) (hz : z = (N : Int)) (hz2 : N ≤ 60000000) (hc : cu + 1 ≤ R.cells) (hsl : su + N ≤ R.slots) (hq : h.1.length = q) (kk : (∀ h', h' = st_n h 2 N → h'.1.length = q + 1 → (∀ (x : Nat) (y : Nat × Nat), h.1[x]? = some y → h'.1[x]? = some y) → aw G R M (cu + 1) (su + N) (pc + 2) L (av_R (some q) :: st) h' Q)) : aw G R M cu su pc L (av_I z :: st) h Q := by
  subst hz; subst hq
  refine A_newZ hd hac (by omega) (by omega) hc (by rw [Int.toNat_natCast]; exact hsl) ?_
  rw [Int.toNat_natCast]
  exact kk _ rfl (st_n_len _ _ _) (fun x y hx => st_n_at _ _ hx)
theorem A_newVv {z : Int} {q N idx : Nat} (hd : decode M.2.1 pc = .ok (.anewarray idx, 3)) (hcl : Cond.classLink M.1.cls idx RX10 ∈ gw) (hov : Cond.arrayOver (.object RX10) ∈ lw_tbl) (hz : z = (N : Int)) (hz2 : N ≤ 60000000) (hc : cu + 1 ≤ R.cells) (hsl : su + N ≤ R.slots) (hq : h.1.length = q) (kk : (∀ h', h' = st_n h 3 N → h'.1.length = q + 1 → (∀ (x : Nat) (y : Nat × Nat), h.1[x]? = some y → h'.1[x]? = some y) → aw G R M (cu + 1) (su + N) (pc + 3) L (av_R (some q) :: st) h' Q)) : aw G R M cu su pc L (av_I z :: st) h Q := by
  subst hz; subst hq
  refine A_newV hd hcl hov (by omega) (by omega) hc (by rw [Int.toNat_natCast]; exact hsl) ?_
  rw [Int.toNat_natCast]
  exact kk _ rfl (st_n_len _ _ _) (fun x y hx => st_n_at _ _ hx)
theorem A_newv {idx q c N : Nat} {C : vw_C} (hT : tbl_OK) (hTK : tbl_K) (hd : decode M.2.1 pc = .ok (.new idx, 3)) (hC : classes[c]? = some C) (hN : C.2.2 = N) (hcl : Cond.classLink M.1.cls idx C.1 ∈ gw) (hc : cu + 1 ≤ R.cells) (hsl : su + N ≤ R.slots) (hq : h.1.length = q) (kk : (∀ h', h' = st_n h (c + 4) N → h'.1.length = q + 1 → (∀ (x : Nat) (y : Nat × Nat), h.1[x]? = some y → h'.1[x]? = some y) → aw G R M (cu + 1) (su + N) (pc + 3) L (av_R (some q) :: st) h' Q)) : aw G R M cu su pc L st h Q := by
  subst hN; subst hq
  exact A_new hT hTK hd hC hcl hc hsl (kk _ rfl (st_n_len _ _ _) (fun x y hx => st_n_at _ _ hx))
theorem A_callS0 {Qa : Option av_T → ah_T → Prop} {idx d mc ms : Nat} (N : mr_T) (hd : decode M.2.1 pc = .ok (.invokestatic idx, 3)) (hl : ml_OK M.1.cls idx N.1) (hm : mt_OK N 0 0) (hR : rm_OK R d N) (hf : cu + mc ≤ R.cells ∧ su + ms ≤ R.slots) (hst : st.length ≤ 4) (hM : con G d mc ms N [] h Qa) (kk : ∀ r h', Qa r h' → aw G R M (cu + mc) (su + ms) (pc + 3) L (rp_R r st) h' Q) : aw G R M cu su pc L (st) h Q := A_callS [] hd hl hm rfl hR hf hst hM _ rfl kk
theorem A_callV0 {Qa : Option av_T → ah_T → Prop} {idx d mc ms c nn a : Nat} (N : mr_T) (hT : tbl_OK) (hd : decode M.2.1 pc = .ok (.invokevirtual idx, 3)) (hl : ml_OK M.1.cls idx N.1) (hm : mt_OK N 0 1) (hs : h.1[a]? = some (c + 4, nn)) (hcl : (classes[c]?).map (fun q => q.1) = some N.1.cls) (hR : rm_OK R d N) (hf : cu + mc ≤ R.cells ∧ su + ms ≤ R.slots) (hst : st.length ≤ 4) (hM : con G d mc ms N [av_R (some a)] h Qa) (kk : ∀ r h', Qa r h' → aw G R M (cu + mc) (su + ms) (pc + 3) L (rp_R r st) h' Q) : aw G R M cu su pc L (av_R (some a) :: st) h Q := A_callV [] hT hd hl hm rfl hs hcl hR hf hst hM _ rfl kk
theorem A_callS1 {Qa : Option av_T → ah_T → Prop} {idx d mc ms : Nat} (N : mr_T) {a1 : av_T} (hd : decode M.2.1 pc = .ok (.invokestatic idx, 3)) (hl : ml_OK M.1.cls idx N.1) (hm : mt_OK N 1 0) (hR : rm_OK R d N) (hf : cu + mc ≤ R.cells ∧ su + ms ≤ R.slots) (hst : st.length ≤ 4) (hM : con G d mc ms N [a1] h Qa) (kk : ∀ r h', Qa r h' → aw G R M (cu + mc) (su + ms) (pc + 3) L (rp_R r st) h' Q) : aw G R M cu su pc L (a1 :: st) h Q := A_callS [a1] hd hl hm rfl hR hf hst hM _ rfl kk
theorem A_callV1 {Qa : Option av_T → ah_T → Prop} {idx d mc ms c nn a : Nat} (N : mr_T) {a1 : av_T} (hT : tbl_OK) (hd : decode M.2.1 pc = .ok (.invokevirtual idx, 3)) (hl : ml_OK M.1.cls idx N.1) (hm : mt_OK N 1 1) (hs : h.1[a]? = some (c + 4, nn)) (hcl : (classes[c]?).map (fun q => q.1) = some N.1.cls) (hR : rm_OK R d N) (hf : cu + mc ≤ R.cells ∧ su + ms ≤ R.slots) (hst : st.length ≤ 4) (hM : con G d mc ms N [av_R (some a), a1] h Qa) (kk : ∀ r h', Qa r h' → aw G R M (cu + mc) (su + ms) (pc + 3) L (rp_R r st) h' Q) : aw G R M cu su pc L (a1 :: av_R (some a) :: st) h Q := A_callV [a1] hT hd hl hm rfl hs hcl hR hf hst hM _ rfl kk
theorem A_callS2 {Qa : Option av_T → ah_T → Prop} {idx d mc ms : Nat} (N : mr_T) {a1 a2 : av_T} (hd : decode M.2.1 pc = .ok (.invokestatic idx, 3)) (hl : ml_OK M.1.cls idx N.1) (hm : mt_OK N 2 0) (hR : rm_OK R d N) (hf : cu + mc ≤ R.cells ∧ su + ms ≤ R.slots) (hst : st.length ≤ 4) (hM : con G d mc ms N [a1, a2] h Qa) (kk : ∀ r h', Qa r h' → aw G R M (cu + mc) (su + ms) (pc + 3) L (rp_R r st) h' Q) : aw G R M cu su pc L (a2 :: a1 :: st) h Q := A_callS [a1, a2] hd hl hm rfl hR hf hst hM _ rfl kk
theorem A_callV2 {Qa : Option av_T → ah_T → Prop} {idx d mc ms c nn a : Nat} (N : mr_T) {a1 a2 : av_T} (hT : tbl_OK) (hd : decode M.2.1 pc = .ok (.invokevirtual idx, 3)) (hl : ml_OK M.1.cls idx N.1) (hm : mt_OK N 2 1) (hs : h.1[a]? = some (c + 4, nn)) (hcl : (classes[c]?).map (fun q => q.1) = some N.1.cls) (hR : rm_OK R d N) (hf : cu + mc ≤ R.cells ∧ su + ms ≤ R.slots) (hst : st.length ≤ 4) (hM : con G d mc ms N [av_R (some a), a1, a2] h Qa) (kk : ∀ r h', Qa r h' → aw G R M (cu + mc) (su + ms) (pc + 3) L (rp_R r st) h' Q) : aw G R M cu su pc L (a2 :: a1 :: av_R (some a) :: st) h Q := A_callV [a1, a2] hT hd hl hm rfl hs hcl hR hf hst hM _ rfl kk
theorem A_callS3 {Qa : Option av_T → ah_T → Prop} {idx d mc ms : Nat} (N : mr_T) {a1 a2 a3 : av_T} (hd : decode M.2.1 pc = .ok (.invokestatic idx, 3)) (hl : ml_OK M.1.cls idx N.1) (hm : mt_OK N 3 0) (hR : rm_OK R d N) (hf : cu + mc ≤ R.cells ∧ su + ms ≤ R.slots) (hst : st.length ≤ 4) (hM : con G d mc ms N [a1, a2, a3] h Qa) (kk : ∀ r h', Qa r h' → aw G R M (cu + mc) (su + ms) (pc + 3) L (rp_R r st) h' Q) : aw G R M cu su pc L (a3 :: a2 :: a1 :: st) h Q := A_callS [a1, a2, a3] hd hl hm rfl hR hf hst hM _ rfl kk
theorem A_callV3 {Qa : Option av_T → ah_T → Prop} {idx d mc ms c nn a : Nat} (N : mr_T) {a1 a2 a3 : av_T} (hT : tbl_OK) (hd : decode M.2.1 pc = .ok (.invokevirtual idx, 3)) (hl : ml_OK M.1.cls idx N.1) (hm : mt_OK N 3 1) (hs : h.1[a]? = some (c + 4, nn)) (hcl : (classes[c]?).map (fun q => q.1) = some N.1.cls) (hR : rm_OK R d N) (hf : cu + mc ≤ R.cells ∧ su + ms ≤ R.slots) (hst : st.length ≤ 4) (hM : con G d mc ms N [av_R (some a), a1, a2, a3] h Qa) (kk : ∀ r h', Qa r h' → aw G R M (cu + mc) (su + ms) (pc + 3) L (rp_R r st) h' Q) : aw G R M cu su pc L (a3 :: a2 :: a1 :: av_R (some a) :: st) h Q := A_callV [a1, a2, a3] hT hd hl hm rfl hs hcl hR hf hst hM _ rfl kk
theorem A_callS4 {Qa : Option av_T → ah_T → Prop} {idx d mc ms : Nat} (N : mr_T) {a1 a2 a3 a4 : av_T} (hd : decode M.2.1 pc = .ok (.invokestatic idx, 3)) (hl : ml_OK M.1.cls idx N.1) (hm : mt_OK N 4 0) (hR : rm_OK R d N) (hf : cu + mc ≤ R.cells ∧ su + ms ≤ R.slots) (hst : st.length ≤ 4) (hM : con G d mc ms N [a1, a2, a3, a4] h Qa) (kk : ∀ r h', Qa r h' → aw G R M (cu + mc) (su + ms) (pc + 3) L (rp_R r st) h' Q) : aw G R M cu su pc L (a4 :: a3 :: a2 :: a1 :: st) h Q := A_callS [a1, a2, a3, a4] hd hl hm rfl hR hf hst hM _ rfl kk
theorem A_callV4 {Qa : Option av_T → ah_T → Prop} {idx d mc ms c nn a : Nat} (N : mr_T) {a1 a2 a3 a4 : av_T} (hT : tbl_OK) (hd : decode M.2.1 pc = .ok (.invokevirtual idx, 3)) (hl : ml_OK M.1.cls idx N.1) (hm : mt_OK N 4 1) (hs : h.1[a]? = some (c + 4, nn)) (hcl : (classes[c]?).map (fun q => q.1) = some N.1.cls) (hR : rm_OK R d N) (hf : cu + mc ≤ R.cells ∧ su + ms ≤ R.slots) (hst : st.length ≤ 4) (hM : con G d mc ms N [av_R (some a), a1, a2, a3, a4] h Qa) (kk : ∀ r h', Qa r h' → aw G R M (cu + mc) (su + ms) (pc + 3) L (rp_R r st) h' Q) : aw G R M cu su pc L (a4 :: a3 :: a2 :: a1 :: av_R (some a) :: st) h Q := A_callV [a1, a2, a3, a4] hT hd hl hm rfl hs hcl hR hf hst hM _ rfl kk
theorem A_callS5 {Qa : Option av_T → ah_T → Prop} {idx d mc ms : Nat} (N : mr_T) {a1 a2 a3 a4 a5 : av_T} (hd : decode M.2.1 pc = .ok (.invokestatic idx, 3)) (hl : ml_OK M.1.cls idx N.1) (hm : mt_OK N 5 0) (hR : rm_OK R d N) (hf : cu + mc ≤ R.cells ∧ su + ms ≤ R.slots) (hst : st.length ≤ 4) (hM : con G d mc ms N [a1, a2, a3, a4, a5] h Qa) (kk : ∀ r h', Qa r h' → aw G R M (cu + mc) (su + ms) (pc + 3) L (rp_R r st) h' Q) : aw G R M cu su pc L (a5 :: a4 :: a3 :: a2 :: a1 :: st) h Q := A_callS [a1, a2, a3, a4, a5] hd hl hm rfl hR hf hst hM _ rfl kk
theorem A_callV5 {Qa : Option av_T → ah_T → Prop} {idx d mc ms c nn a : Nat} (N : mr_T) {a1 a2 a3 a4 a5 : av_T} (hT : tbl_OK) (hd : decode M.2.1 pc = .ok (.invokevirtual idx, 3)) (hl : ml_OK M.1.cls idx N.1) (hm : mt_OK N 5 1) (hs : h.1[a]? = some (c + 4, nn)) (hcl : (classes[c]?).map (fun q => q.1) = some N.1.cls) (hR : rm_OK R d N) (hf : cu + mc ≤ R.cells ∧ su + ms ≤ R.slots) (hst : st.length ≤ 4) (hM : con G d mc ms N [av_R (some a), a1, a2, a3, a4, a5] h Qa) (kk : ∀ r h', Qa r h' → aw G R M (cu + mc) (su + ms) (pc + 3) L (rp_R r st) h' Q) : aw G R M cu su pc L (a5 :: a4 :: a3 :: a2 :: a1 :: av_R (some a) :: st) h Q := A_callV [a1, a2, a3, a4, a5] hT hd hl hm rfl hs hcl hR hf hst hM _ rfl kk
theorem A_callS6 {Qa : Option av_T → ah_T → Prop} {idx d mc ms : Nat} (N : mr_T) {a1 a2 a3 a4 a5 a6 : av_T} (hd : decode M.2.1 pc = .ok (.invokestatic idx, 3)) (hl : ml_OK M.1.cls idx N.1) (hm : mt_OK N 6 0) (hR : rm_OK R d N) (hf : cu + mc ≤ R.cells ∧ su + ms ≤ R.slots) (hst : st.length ≤ 4) (hM : con G d mc ms N [a1, a2, a3, a4, a5, a6] h Qa) (kk : ∀ r h', Qa r h' → aw G R M (cu + mc) (su + ms) (pc + 3) L (rp_R r st) h' Q) : aw G R M cu su pc L (a6 :: a5 :: a4 :: a3 :: a2 :: a1 :: st) h Q := A_callS [a1, a2, a3, a4, a5, a6] hd hl hm rfl hR hf hst hM _ rfl kk
theorem A_callV6 {Qa : Option av_T → ah_T → Prop} {idx d mc ms c nn a : Nat} (N : mr_T) {a1 a2 a3 a4 a5 a6 : av_T} (hT : tbl_OK) (hd : decode M.2.1 pc = .ok (.invokevirtual idx, 3)) (hl : ml_OK M.1.cls idx N.1) (hm : mt_OK N 6 1) (hs : h.1[a]? = some (c + 4, nn)) (hcl : (classes[c]?).map (fun q => q.1) = some N.1.cls) (hR : rm_OK R d N) (hf : cu + mc ≤ R.cells ∧ su + ms ≤ R.slots) (hst : st.length ≤ 4) (hM : con G d mc ms N [av_R (some a), a1, a2, a3, a4, a5, a6] h Qa) (kk : ∀ r h', Qa r h' → aw G R M (cu + mc) (su + ms) (pc + 3) L (rp_R r st) h' Q) : aw G R M cu su pc L (a6 :: a5 :: a4 :: a3 :: a2 :: a1 :: av_R (some a) :: st) h Q := A_callV [a1, a2, a3, a4, a5, a6] hT hd hl hm rfl hs hcl hR hf hst hM _ rfl kk
theorem A_callS7 {Qa : Option av_T → ah_T → Prop} {idx d mc ms : Nat} (N : mr_T) {a1 a2 a3 a4 a5 a6 a7 : av_T} (hd : decode M.2.1 pc = .ok (.invokestatic idx, 3)) (hl : ml_OK M.1.cls idx N.1) (hm : mt_OK N 7 0) (hR : rm_OK R d N) (hf : cu + mc ≤ R.cells ∧ su + ms ≤ R.slots) (hst : st.length ≤ 4) (hM : con G d mc ms N [a1, a2, a3, a4, a5, a6, a7] h Qa) (kk : ∀ r h', Qa r h' → aw G R M (cu + mc) (su + ms) (pc + 3) L (rp_R r st) h' Q) : aw G R M cu su pc L (a7 :: a6 :: a5 :: a4 :: a3 :: a2 :: a1 :: st) h Q := A_callS [a1, a2, a3, a4, a5, a6, a7] hd hl hm rfl hR hf hst hM _ rfl kk
theorem A_callV7 {Qa : Option av_T → ah_T → Prop} {idx d mc ms c nn a : Nat} (N : mr_T) {a1 a2 a3 a4 a5 a6 a7 : av_T} (hT : tbl_OK) (hd : decode M.2.1 pc = .ok (.invokevirtual idx, 3)) (hl : ml_OK M.1.cls idx N.1) (hm : mt_OK N 7 1) (hs : h.1[a]? = some (c + 4, nn)) (hcl : (classes[c]?).map (fun q => q.1) = some N.1.cls) (hR : rm_OK R d N) (hf : cu + mc ≤ R.cells ∧ su + ms ≤ R.slots) (hst : st.length ≤ 4) (hM : con G d mc ms N [av_R (some a), a1, a2, a3, a4, a5, a6, a7] h Qa) (kk : ∀ r h', Qa r h' → aw G R M (cu + mc) (su + ms) (pc + 3) L (rp_R r st) h' Q) : aw G R M cu su pc L (a7 :: a6 :: a5 :: a4 :: a3 :: a2 :: a1 :: av_R (some a) :: st) h Q := A_callV [a1, a2, a3, a4, a5, a6, a7] hT hd hl hm rfl hs hcl hR hf hst hM _ rfl kk
theorem A_callI0 {Qa : Option av_T → ah_T → Prop} {idx d mc ms a : Nat} (N : mr_T) (hd : decode M.2.1 pc = .ok (.invokespecial idx, 3)) (hl : ml_OK M.1.cls idx N.1) (hm : mt_OK N 0 2) (hR : rm_OK R d N) (hf : cu + mc ≤ R.cells ∧ su + ms ≤ R.slots) (hst : st.length ≤ 4) (hM : con G d mc ms N [av_R (some a)] h Qa) (kk : ∀ r h', Qa r h' → aw G R M (cu + mc) (su + ms) (pc + 3) L (rp_R r st) h' Q) : aw G R M cu su pc L (av_R (some a) :: st) h Q := by
  obtain ⟨y, by0, ml, rt⟩ := N
  have hrt : rt = none := (hm.2.2.2.2.2 rfl).2.2
  subst hrt
  exact A_callI [] hd hl hm rfl hR hf hst hM _ rfl kk
end AWV

/-! ===== java.lang.Math's own rows ===== -/
section AWM
variable {G : cx_T} {R : Room} {M : mr_T} {cu su pc : Nat} {L : List (Option av_T)} {st : List av_T} {h : ah_T} {Q : Option av_T → ah_T → Prop}
theorem A_mmin {idx : Nat} {x y z : Int} (hd : decode M.2.1 pc = .ok (.invokestatic idx, 3)) (hl : Cond.methodLink M.1.cls idx Lib.Math.min.name ∈ gw) (hm : Cond.static Lib.Math.min.name ∈ gw ∧ Cond.initialized "java/lang/Math" ∈ gw ∧ Cond.code Lib.Math.min.name Lib.Math.min.code 2 (some .int) ∈ gw) (hR : 1 ≤ R.frames ∧ 21 ≤ R.locals) (hf : cu ≤ R.cells ∧ su ≤ R.slots) (hst : st.length ≤ 4) (hz : (if y < x then y else x) = z) (kk : aw G R M cu su (pc + 3) L (av_I z :: st) h Q) : aw G R M cu su pc L (av_I y :: av_I x :: st) h Q := by
  intro p e s m args below meth cd H locs ls S hH hO hS hb hL hn
  have hx := nv_h (nv_t hn)
  have hy := nv_h hn
  have hsum := cat_sum G hst
  have hk := kk p e s m args below meth cd H locs ls S hH hO hS hb hL (nv_c (by rw [← hz]; split <;> assumption) (nv_t (nv_t hn)))
  refine va_mmin S.1 S.2.1 (by rw [hL.2.1, S.2.2.1]) S.2.2.2.1 (S.2.2.2.2.1 _ hl) (S.2.2.2.2.1 _ hm.1) (S.2.2.2.2.1 _ hm.2.1) (S.2.2.2.2.1 _ hm.2.2) hR.1 (by omega) hf.1 hf.2 hd ?_
  rw [← hz] at hk
  by_cases hc : y < x
  · rw [if_pos hc] at hk
    rw [if_pos ((i32_lt hy hx).mpr hc)]
    exact hk
  · rw [if_neg hc] at hk
    rw [if_neg (fun q => hc ((i32_lt hy hx).mp q))]
    exact hk
theorem A_mmax {idx : Nat} {x y z : Int} (hd : decode M.2.1 pc = .ok (.invokestatic idx, 3)) (hl : Cond.methodLink M.1.cls idx Lib.Math.max.name ∈ gw) (hm : Cond.static Lib.Math.max.name ∈ gw ∧ Cond.initialized "java/lang/Math" ∈ gw ∧ Cond.code Lib.Math.max.name Lib.Math.max.code 2 (some .int) ∈ gw) (hR : 1 ≤ R.frames ∧ 21 ≤ R.locals) (hf : cu ≤ R.cells ∧ su ≤ R.slots) (hst : st.length ≤ 4) (hz : (if x < y then y else x) = z) (kk : aw G R M cu su (pc + 3) L (av_I z :: st) h Q) : aw G R M cu su pc L (av_I y :: av_I x :: st) h Q := by
  intro p e s m args below meth cd H locs ls S hH hO hS hb hL hn
  have hx := nv_h (nv_t hn)
  have hy := nv_h hn
  have hsum := cat_sum G hst
  have hk := kk p e s m args below meth cd H locs ls S hH hO hS hb hL (nv_c (by rw [← hz]; split <;> assumption) (nv_t (nv_t hn)))
  refine va_mmax S.1 S.2.1 (by rw [hL.2.1, S.2.2.1]) S.2.2.2.1 (S.2.2.2.2.1 _ hl) (S.2.2.2.2.1 _ hm.1) (S.2.2.2.2.1 _ hm.2.1) (S.2.2.2.2.1 _ hm.2.2) hR.1 (by omega) hf.1 hf.2 hd ?_
  rw [← hz] at hk
  by_cases hc : x < y
  · rw [if_pos hc] at hk
    rw [if_pos ((i32_lt hx hy).mpr hc)]
    exact hk
  · rw [if_neg hc] at hk
    rw [if_neg (fun q => hc ((i32_lt hx hy).mp q))]
    exact hk
theorem A_mabs {idx : Nat} {x z : Int} (hd : decode M.2.1 pc = .ok (.invokestatic idx, 3)) (hl : Cond.methodLink M.1.cls idx Lib.Math.abs.name ∈ gw) (hm : Cond.static Lib.Math.abs.name ∈ gw ∧ Cond.initialized "java/lang/Math" ∈ gw ∧ Cond.code Lib.Math.abs.name Lib.Math.abs.code 1 (some .int) ∈ gw) (hR : 1 ≤ R.frames ∧ 21 ≤ R.locals) (hf : cu ≤ R.cells ∧ su ≤ R.slots) (hst : st.length ≤ 4) (hz : (if 0 ≤ x then x else w32 (0 - x)) = z) (kk : aw G R M cu su (pc + 3) L (av_I z :: st) h Q) : aw G R M cu su pc L (av_I x :: st) h Q := by
  intro p e s m args below meth cd H locs ls S hH hO hS hb hL hn
  have hx := nv_h hn
  have hsum := cat_sum G hst
  have hk := kk p e s m args below meth cd H locs ls S hH hO hS hb hL (nv_c (by rw [← hz]; split; exact hx; exact w32_in _) (nv_t hn))
  refine va_mabs S.1 S.2.1 (by rw [hL.2.1, S.2.2.1]) S.2.2.2.1 (S.2.2.2.2.1 _ hl) (S.2.2.2.2.1 _ hm.1) (S.2.2.2.2.1 _ hm.2.1) (S.2.2.2.2.1 _ hm.2.2) hR.1 (by omega) hf.1 hf.2 hd ?_
  rw [← hz] at hk
  by_cases hc : 0 ≤ x
  · rw [if_pos hc] at hk
    rw [if_pos (show (0 : Int32) ≤ Int32.ofInt x from (i32_le i32_0 hx).mpr hc)]
    exact hk
  · rw [if_neg hc] at hk
    rw [if_neg (show ¬ (0 : Int32) ≤ Int32.ofInt x from fun q => hc ((i32_le i32_0 hx).mp q))]
    have h2 := w32_sub 0 x
    have h3 : (cv G (av_I (w32 (0 - x)))) = .int (0 - Int32.ofInt x) := by show Value.int (Int32.ofInt _) = _; rw [h2]; rfl
    rw [← h3]
    exact hk
end AWM

theorem cmp_s {x y : Int} (h : x = y) : cmp_I x y = 0 := by subst h; simp [cmp_I]
section AWL
variable {G : cx_T} {R : Room} {M : mr_T} {cu su pc : Nat} {L : List (Option av_T)} {st : List av_T} {h : ah_T} {Q : Option av_T → ah_T → Prop}
theorem A_dcmpv {x y : UInt64} {op : CmpOp} {z : Int} (hd : decode M.2.1 pc = .ok (.dcmp op, 1)) (hz : (Op.cmpValue (FP.dcmp x y) op).toInt = z) (k : aw G R M cu su (pc + 1) L (av_I z :: st) h Q) : aw G R M cu su pc L (av_D y :: av_D x :: st) h Q := A_dcmp hd (by rw [hz]; exact k)
end AWL

/-! ===== rows that name what they read; stores that hand a relation on ===== -/
section AWZ
variable {G : cx_T} {R : Room} {M : mr_T} {cu su pc : Nat} {L : List (Option av_T)} {st : List av_T} {h : ah_T} {Q : Option av_T → ah_T → Prop}
theorem A_getIn {lo hi : Int} {idx c k : Nat} {fin : Bool} {a n : Nat} (hT : tbl_OK) (hd : decode M.2.1 pc = .ok (.getfield idx, 3)) (hf : fl_OK M.1.cls idx c k .int fin) (hs : h.1[a]? = some (c + 4, n)) (hr : lo ≤ h.2.1 a k ∧ h.2.1 a k ≤ hi) (kk : ∀ x, x = h.2.1 a k → lo ≤ x → x ≤ hi → aw G R M cu su (pc + 3) L (av_I x :: st) h Q) : aw G R M cu su pc L (av_R (some a) :: st) h Q := A_getI hT hd hf hs (kk _ rfl hr.1 hr.2)
theorem A_getIf {idx c k : Nat} {fin : Bool} {a n : Nat} (hT : tbl_OK) (hd : decode M.2.1 pc = .ok (.getfield idx, 3)) (hf : fl_OK M.1.cls idx c k .int fin) (hs : h.1[a]? = some (c + 4, n)) (kk : ∀ x, x = h.2.1 a k → -2147483648 ≤ x → x ≤ 2147483647 → aw G R M cu su (pc + 3) L (av_I x :: st) h Q) : aw G R M cu su pc L (av_R (some a) :: st) h Q := A_getI hT hd hf hs (A_rgI fun q => kk _ rfl q.1 (by have := q.2; omega))
theorem A_getZn {idx c k : Nat} {fin : Bool} {a n : Nat} (hT : tbl_OK) (hd : decode M.2.1 pc = .ok (.getfield idx, 3)) (hf : fl_OK M.1.cls idx c k .boolean fin) (hs : h.1[a]? = some (c + 4, n)) (kk : ∀ x, x = h.2.1 a k → (x = 0 ∨ x = 1) → aw G R M cu su (pc + 3) L (av_I x :: st) h Q) : aw G R M cu su pc L (av_R (some a) :: st) h Q := A_getZ hT hd hf hs (fun q => kk _ rfl q)
theorem A_getLn {lo hi : Int} {idx c k : Nat} {fin : Bool} {a n : Nat} (hT : tbl_OK) (hd : decode M.2.1 pc = .ok (.getfield idx, 3)) (hf : fl_OK M.1.cls idx c k .long fin) (hs : h.1[a]? = some (c + 4, n)) (hr : lo ≤ h.2.2.1 a k ∧ h.2.2.1 a k ≤ hi) (kk : ∀ x, x = h.2.2.1 a k → lo ≤ x → x ≤ hi → aw G R M cu su (pc + 3) L (av_L x :: st) h Q) : aw G R M cu su pc L (av_R (some a) :: st) h Q := A_getL hT hd hf hs (kk _ rfl hr.1 hr.2)
theorem A_getLf {idx c k : Nat} {fin : Bool} {a n : Nat} (hT : tbl_OK) (hd : decode M.2.1 pc = .ok (.getfield idx, 3)) (hf : fl_OK M.1.cls idx c k .long fin) (hs : h.1[a]? = some (c + 4, n)) (kk : ∀ x, x = h.2.2.1 a k → -9223372036854775808 ≤ x → x ≤ 9223372036854775807 → aw G R M cu su (pc + 3) L (av_L x :: st) h Q) : aw G R M cu su pc L (av_R (some a) :: st) h Q := A_getL hT hd hf hs (A_rgL fun q => kk _ rfl q.1 (by have := q.2; omega))
theorem A_ialoadn {lo hi : Int} {a n : Nat} {i : Int} (hd : decode M.2.1 pc = .ok (.iaload, 1)) (hs : h.1[a]? = some (0, n)) (h0 : 0 ≤ i) (h1 : i < n) (hr : lo ≤ h.2.1 a i.toNat ∧ h.2.1 a i.toNat ≤ hi) (kk : ∀ x, x = h.2.1 a i.toNat → lo ≤ x → x ≤ hi → aw G R M cu su (pc + 1) L (av_I x :: st) h Q) : aw G R M cu su pc L (av_I i :: av_R (some a) :: st) h Q := A_ialoadN hd hs h0 h1 (kk _ rfl hr.1 hr.2)
theorem A_ialoadf {a n : Nat} {i : Int} (hd : decode M.2.1 pc = .ok (.iaload, 1)) (hs : h.1[a]? = some (0, n)) (h0 : 0 ≤ i) (h1 : i < n) (kk : ∀ x, x = h.2.1 a i.toNat → -2147483648 ≤ x → x ≤ 2147483647 → aw G R M cu su (pc + 1) L (av_I x :: st) h Q) : aw G R M cu su pc L (av_I i :: av_R (some a) :: st) h Q := A_ialoadN hd hs h0 h1 (A_rgI fun q => kk _ rfl q.1 (by have := q.2; omega))
theorem A_laloadn {lo hi : Int} {a n : Nat} {i : Int} (hd : decode M.2.1 pc = .ok (.laload, 1)) (hs : h.1[a]? = some (1, n)) (h0 : 0 ≤ i) (h1 : i < n) (hr : lo ≤ h.2.2.1 a i.toNat ∧ h.2.2.1 a i.toNat ≤ hi) (kk : ∀ x, x = h.2.2.1 a i.toNat → lo ≤ x → x ≤ hi → aw G R M cu su (pc + 1) L (av_L x :: st) h Q) : aw G R M cu su pc L (av_I i :: av_R (some a) :: st) h Q := A_laloadN hd hs h0 h1 (kk _ rfl hr.1 hr.2)
theorem A_laloadf {a n : Nat} {i : Int} (hd : decode M.2.1 pc = .ok (.laload, 1)) (hs : h.1[a]? = some (1, n)) (h0 : 0 ≤ i) (h1 : i < n) (kk : ∀ x, x = h.2.2.1 a i.toNat → -9223372036854775808 ≤ x → x ≤ 9223372036854775807 → aw G R M cu su (pc + 1) L (av_L x :: st) h Q) : aw G R M cu su pc L (av_I i :: av_R (some a) :: st) h Q := A_laloadN hd hs h0 h1 (A_rgL fun q => kk _ rfl q.1 (by have := q.2; omega))
theorem A_zaloadn {a n : Nat} {i : Int} (hd : decode M.2.1 pc = .ok (.baload, 1)) (hs : h.1[a]? = some (2, n)) (h0 : 0 ≤ i) (h1 : i < n) (kk : ∀ x, x = h.2.1 a i.toNat → (x = 0 ∨ x = 1) → aw G R M cu su (pc + 1) L (av_I x :: st) h Q) : aw G R M cu su pc L (av_I i :: av_R (some a) :: st) h Q := A_zaloadN hd hs h0 h1 (fun q => kk _ rfl q)
theorem A_aaloadn {S : Option Nat → Prop} {a n : Nat} {i : Int} (hd : decode M.2.1 pc = .ok (.aaload, 1)) (hs : h.1[a]? = some (3, n)) (h0 : 0 ≤ i) (h1 : i < n) (hr : S (h.2.2.2 a i.toNat)) (kk : ∀ x, S x → aw G R M cu su (pc + 1) L (av_R x :: st) h Q) : aw G R M cu su pc L (av_I i :: av_R (some a) :: st) h Q := A_aaloadN hd hs h0 h1 (kk _ hr)
theorem A_iaddw {x y : Int} (hd : decode M.2.1 pc = .ok (.iadd, 1)) (k : ∀ z, z = w32 (x + y) → -2147483648 ≤ z → z ≤ 2147483647 → aw G R M cu su (pc + 1) L (av_I z :: st) h Q) : aw G R M cu su pc L (av_I y :: av_I x :: st) h Q := A_iadd hd (k _ rfl (w32_in _).1 (by have := (w32_in (x + y)).2; omega))
theorem A_isubw {x y : Int} (hd : decode M.2.1 pc = .ok (.isub, 1)) (k : ∀ z, z = w32 (x - y) → -2147483648 ≤ z → z ≤ 2147483647 → aw G R M cu su (pc + 1) L (av_I z :: st) h Q) : aw G R M cu su pc L (av_I y :: av_I x :: st) h Q := A_isub hd (k _ rfl (w32_in _).1 (by have := (w32_in (x - y)).2; omega))
theorem A_imulw {x y : Int} (hd : decode M.2.1 pc = .ok (.imul, 1)) (k : ∀ z, z = w32 (x * y) → -2147483648 ≤ z → z ≤ 2147483647 → aw G R M cu su (pc + 1) L (av_I z :: st) h Q) : aw G R M cu su pc L (av_I y :: av_I x :: st) h Q := A_imul hd (k _ rfl (w32_in _).1 (by have := (w32_in (x * y)).2; omega))
theorem A_laddw {x y : Int} (hd : decode M.2.1 pc = .ok (.ladd, 1)) (k : ∀ z, z = w64 (x + y) → -9223372036854775808 ≤ z → z ≤ 9223372036854775807 → aw G R M cu su (pc + 1) L (av_L z :: st) h Q) : aw G R M cu su pc L (av_L y :: av_L x :: st) h Q := A_ladd hd (k _ rfl (w64_in _).1 (by have := (w64_in (x + y)).2; omega))
theorem A_lsubw {x y : Int} (hd : decode M.2.1 pc = .ok (.lsub, 1)) (k : ∀ z, z = w64 (x - y) → -9223372036854775808 ≤ z → z ≤ 9223372036854775807 → aw G R M cu su (pc + 1) L (av_L z :: st) h Q) : aw G R M cu su pc L (av_L y :: av_L x :: st) h Q := A_lsub hd (k _ rfl (w64_in _).1 (by have := (w64_in (x - y)).2; omega))
theorem A_lmulw {x y : Int} (hd : decode M.2.1 pc = .ok (.lmul, 1)) (k : ∀ z, z = w64 (x * y) → -9223372036854775808 ≤ z → z ≤ 9223372036854775807 → aw G R M cu su (pc + 1) L (av_L z :: st) h Q) : aw G R M cu su pc L (av_L y :: av_L x :: st) h Q := A_lmul hd (k _ rfl (w64_in _).1 (by have := (w64_in (x * y)).2; omega))
theorem A_inegw {x : Int} (hd : decode M.2.1 pc = .ok (.ineg, 1)) (k : ∀ z, z = w32 (-x) → -2147483648 ≤ z → z ≤ 2147483647 → aw G R M cu su (pc + 1) L (av_I z :: st) h Q) : aw G R M cu su pc L (av_I x :: st) h Q := A_ineg hd (k _ rfl (w32_in _).1 (by have := (w32_in (-x)).2; omega))
theorem A_lnegw {x : Int} (hd : decode M.2.1 pc = .ok (.lneg, 1)) (k : ∀ z, z = w64 (-x) → -9223372036854775808 ≤ z → z ≤ 9223372036854775807 → aw G R M cu su (pc + 1) L (av_L z :: st) h Q) : aw G R M cu su pc L (av_L x :: st) h Q := A_lneg hd (k _ rfl (w64_in _).1 (by have := (w64_in (-x)).2; omega))
theorem A_l2iw {x : Int} (hd : decode M.2.1 pc = .ok (.l2i, 1)) (k : ∀ z, z = w32 x → -2147483648 ≤ z → z ≤ 2147483647 → aw G R M cu su (pc + 1) L (av_I z :: st) h Q) : aw G R M cu su pc L (av_L x :: st) h Q := A_l2i hd (k _ rfl (w32_in _).1 (by have := (w32_in x).2; omega))
theorem A_nrI {x : Int} (k : ∀ y : Int, y = x → -2147483648 ≤ y → y ≤ 2147483647 → aw G R M cu su pc L (av_I y :: st) h Q) : aw G R M cu su pc L (av_I x :: st) h Q := A_rgI fun q => k x rfl q.1 (by have := q.2; omega)
theorem A_nrL {x : Int} (k : ∀ y : Int, y = x → -9223372036854775808 ≤ y → y ≤ 9223372036854775807 → aw G R M cu su pc L (av_L y :: st) h Q) : aw G R M cu su pc L (av_L x :: st) h Q := A_rgL fun q => k x rfl q.1 (by have := q.2; omega)
theorem A_iremc {x y : Int} (hd : decode M.2.1 pc = .ok (.irem, 1)) (hy : y ≠ 0) (k : ∀ z, z = x.tmod y → -2147483648 ≤ z → z ≤ 2147483647 → aw G R M cu su (pc + 1) L (av_I z :: st) h Q) : aw G R M cu su pc L (av_I y :: av_I x :: st) h Q := A_irem hd hy (A_nrI k)
theorem A_idivc {x y : Int} (hd : decode M.2.1 pc = .ok (.idiv, 1)) (hy : y ≠ 0) (k : ∀ z, z = w32 (x.tdiv y) → -2147483648 ≤ z → z ≤ 2147483647 → aw G R M cu su (pc + 1) L (av_I z :: st) h Q) : aw G R M cu su pc L (av_I y :: av_I x :: st) h Q := A_idiv hd hy (A_nrI k)
theorem A_lremc {x y : Int} (hd : decode M.2.1 pc = .ok (.lrem, 1)) (hy : y ≠ 0) (k : ∀ z, z = x.tmod y → -9223372036854775808 ≤ z → z ≤ 9223372036854775807 → aw G R M cu su (pc + 1) L (av_L z :: st) h Q) : aw G R M cu su pc L (av_L y :: av_L x :: st) h Q := A_lrem hd hy (A_nrL k)
theorem A_ldivc {x y : Int} (hd : decode M.2.1 pc = .ok (.ldiv, 1)) (hy : y ≠ 0) (k : ∀ z, z = w64 (x.tdiv y) → -9223372036854775808 ≤ z → z ≤ 9223372036854775807 → aw G R M cu su (pc + 1) L (av_L z :: st) h Q) : aw G R M cu su pc L (av_L y :: av_L x :: st) h Q := A_ldiv hd hy (A_nrL k)
theorem A_lcmpn {x y : Int} (hd : decode M.2.1 pc = .ok (.lcmp, 1)) (k : ∀ z, (x < y → z = -1) → (x = y → z = 0) → (y < x → z = 1) → -1 ≤ z → z ≤ 1 → aw G R M cu su (pc + 1) L (av_I z :: st) h Q) : aw G R M cu su pc L (av_L y :: av_L x :: st) h Q := by
  refine A_lcmp hd (k _ ?_ ?_ ?_ ?_ ?_) <;> (try intro hh) <;> unfold cmp_I <;> (try split) <;> (try split) <;> omega
theorem A_iincw {i : Nat} {n x : Int} (hd : decode M.2.1 pc = .ok (.iinc i n, 3)) (hx : L[i]? = some (some (av_I x))) (k : ∀ z, z = w32 (x + n) → -2147483648 ≤ z → z ≤ 2147483647 → aw G R M cu su (pc + 3) (lst1 L i (av_I z)) st h Q) : aw G R M cu su pc L st h Q := A_iinc hd hx rfl (k _ rfl (w32_in _).1 (by have := (w32_in (x + n)).2; omega))
def lsub : List (Option av_T) → List (Option av_T) → Prop
  | [], [] => True
  | none :: a, _ :: b => lsub a b
  | some v :: a, w :: b => w = some v ∧ lsub a b
  | _, _ => False
theorem lsub_ok : ∀ {A B : List (Option av_T)}, lsub A B → A.length = B.length ∧ ∀ (k : Nat) (v : av_T), A[k]? = some (some v) → B[k]? = some (some v)
  | [], [], _ => ⟨rfl, fun k v q => q⟩
  | none :: a, w :: b, h => by
    have ih := lsub_ok (A := a) (B := b) h
    refine ⟨congrArg (· + 1) ih.1, fun k v q => ?_⟩
    cases k with
    | zero => cases q
    | succ k => exact ih.2 k v q
  | some u :: a, w :: b, h => by
    have ih := lsub_ok (A := a) (B := b) h.2
    refine ⟨congrArg (· + 1) ih.1, fun k v q => ?_⟩
    cases k with
    | zero => rw [h.1]; exact q
    | succ k => exact ih.2 k v q
theorem A_free {L' : List (Option av_T)} (hl : lsub L' L) (k : aw G R M cu su pc L' st h Q) : aw G R M cu su pc L st h Q := by
  intro p e s m args below meth c H locs ls a1 a2 a3 a4 a5 a6 a7
  have hh := lsub_ok hl
  exact k p e s m args below meth c H locs ls a1 a2 a3 a4 a5 ⟨hh.1.trans a6.1, a6.2.1, a6.2.2.1, fun k v q => a6.2.2.2 k v (hh.2 k v q)⟩ a7
theorem A_lL {L' : List (Option av_T)} (hl : L = L') (k : aw G R M cu su pc L' st h Q) : aw G R M cu su pc L st h Q := hl ▸ k
theorem ste_i {h : ah_T} {a k : Nat} {z : Int} : (∀ a' k', (a' = a → k' ≠ k) → (st_i h a k z).2.1 a' k' = h.2.1 a' k') ∧ (st_i h a k z).2.1 a k = z ∧ (st_i h a k z).2.2.1 = h.2.2.1 := ⟨fun a' k' q => if_neg (fun c => q c.1 c.2), if_pos ⟨rfl, rfl⟩, rfl⟩
theorem ste_l {h : ah_T} {a k : Nat} {z : Int} : (st_l h a k z).2.1 = h.2.1 ∧ (∀ a' k', (a' = a → k' ≠ k) → (st_l h a k z).2.2.1 a' k' = h.2.2.1 a' k') ∧ (st_l h a k z).2.2.1 a k = z := ⟨rfl, fun a' k' q => if_neg (fun c => q c.1 c.2), if_pos ⟨rfl, rfl⟩⟩
theorem A_putIk {KR : ah_T → Prop} {idx c k : Nat} {fin : Bool} {a n : Nat} {z : Int} (hT : tbl_OK) (hd : decode M.2.1 pc = .ok (.putfield idx, 3)) (hf : fl_OK M.1.cls idx c k .int fin) (hs : h.1[a]? = some (c + 4, n)) (hfin : fin_OK M c fin) (hk : KR (st_i h a k z)) (kk : ∀ h', KR h' → ((∀ a' k', (a' = a → k' ≠ k) → h'.2.1 a' k' = h.2.1 a' k') ∧ h'.2.1 a k = z ∧ h'.2.2.1 = h.2.2.1) → aw G R M cu su (pc + 3) L st h' Q) : aw G R M cu su pc L (av_I z :: av_R (some a) :: st) h Q := A_putI hT hd hf hs hfin (kk _ hk ste_i)
theorem A_putLk {KR : ah_T → Prop} {idx c k : Nat} {fin : Bool} {a n : Nat} {z : Int} (hT : tbl_OK) (hd : decode M.2.1 pc = .ok (.putfield idx, 3)) (hf : fl_OK M.1.cls idx c k .long fin) (hs : h.1[a]? = some (c + 4, n)) (hfin : fin_OK M c fin) (hk : KR (st_l h a k z)) (kk : ∀ h', KR h' → (h'.2.1 = h.2.1 ∧ (∀ a' k', (a' = a → k' ≠ k) → h'.2.2.1 a' k' = h.2.2.1 a' k') ∧ h'.2.2.1 a k = z) → aw G R M cu su (pc + 3) L st h' Q) : aw G R M cu su pc L (av_L z :: av_R (some a) :: st) h Q := A_putL hT hd hf hs hfin (kk _ hk ste_l)
theorem A_putZk {KR : ah_T → Prop} {idx c k : Nat} {fin : Bool} {a n : Nat} {z : Int} (hT : tbl_OK) (hd : decode M.2.1 pc = .ok (.putfield idx, 3)) (hf : fl_OK M.1.cls idx c k .boolean fin) (hs : h.1[a]? = some (c + 4, n)) (hfin : fin_OK M c fin) (h01 : z = 0 ∨ z = 1) (hk : KR (st_i h a k z)) (kk : ∀ h', KR h' → ((∀ a' k', (a' = a → k' ≠ k) → h'.2.1 a' k' = h.2.1 a' k') ∧ h'.2.1 a k = z ∧ h'.2.2.1 = h.2.2.1) → aw G R M cu su (pc + 3) L st h' Q) : aw G R M cu su pc L (av_I z :: av_R (some a) :: st) h Q := A_putZ hT hd hf hs hfin h01 (kk _ hk ste_i)
theorem A_iastorek {KR : ah_T → Prop} {a n : Nat} {i z : Int} (hd : decode M.2.1 pc = .ok (.iastore, 1)) (hs : h.1[a]? = some (0, n)) (h0 : 0 ≤ i) (h1 : i < n) (hk : KR (st_i h a i.toNat z)) (kk : ∀ h', KR h' → ((∀ a' k', (a' = a → k' ≠ i.toNat) → h'.2.1 a' k' = h.2.1 a' k') ∧ h'.2.1 a i.toNat = z ∧ h'.2.2.1 = h.2.2.1) → aw G R M cu su (pc + 1) L st h' Q) : aw G R M cu su pc L (av_I z :: av_I i :: av_R (some a) :: st) h Q := A_iastoreN hd hs h0 h1 (kk _ hk ste_i)
theorem A_lastorek {KR : ah_T → Prop} {a n : Nat} {i z : Int} (hd : decode M.2.1 pc = .ok (.lastore, 1)) (hs : h.1[a]? = some (1, n)) (h0 : 0 ≤ i) (h1 : i < n) (hk : KR (st_l h a i.toNat z)) (kk : ∀ h', KR h' → (h'.2.1 = h.2.1 ∧ (∀ a' k', (a' = a → k' ≠ i.toNat) → h'.2.2.1 a' k' = h.2.2.1 a' k') ∧ h'.2.2.1 a i.toNat = z) → aw G R M cu su (pc + 1) L st h' Q) : aw G R M cu su pc L (av_L z :: av_I i :: av_R (some a) :: st) h Q := A_lastoreN hd hs h0 h1 (kk _ hk ste_l)
theorem A_zastorek {KR : ah_T → Prop} {a n : Nat} {i z : Int} (hd : decode M.2.1 pc = .ok (.bastore, 1)) (hs : h.1[a]? = some (2, n)) (h0 : 0 ≤ i) (h1 : i < n) (h01 : z = 0 ∨ z = 1) (hk : KR (st_i h a i.toNat z)) (kk : ∀ h', KR h' → ((∀ a' k', (a' = a → k' ≠ i.toNat) → h'.2.1 a' k' = h.2.1 a' k') ∧ h'.2.1 a i.toNat = z ∧ h'.2.2.1 = h.2.2.1) → aw G R M cu su (pc + 1) L st h' Q) : aw G R M cu su pc L (av_I z :: av_I i :: av_R (some a) :: st) h Q := A_zastoreN hd hs h0 h1 h01 (kk _ hk ste_i)
end AWZ

/-! ===== rows of static arrays and of String constants ===== -/
section AWK
variable {G : cx_T} {R : Room} {M : mr_T} {cu su pc : Nat} {L : List (Option av_T)} {st : List av_T} {h : ah_T} {Q : Option av_T → ah_T → Prop}
theorem A_getsA {idx : Nat} {q : String × Nat × List Int} (hq : q ∈ st_L) (hl : Cond.fieldLink M.1.cls idx "PlainMusic" q.1 "[I" ∈ gw ∨ ∃ host, Cond.fieldLinkNest M.1.cls idx "PlainMusic" q.1 "[I" host ∈ lw_tbl) (hd : decode M.2.1 pc = .ok (.getstatic idx, 3)) (kk : aw G R M cu su (pc + 3) L (av_S q.2.1 :: st) h Q) : aw G R M cu su pc L st h Q := by
  intro p e s m args below meth cd H locs ls S hH hO hS hb hL hn
  have hZ := (hO.2.1 q hq).1
  have hk := kk p e s m args below meth cd H locs ls S hH hO hS hb hL (nv_c trivial hn)
  rcases hl with hl | ⟨host, hl⟩
  · exact va_gets (C := "PlainMusic") (n := q.1) (d := "[I") (ref := "PlainMusic") (v := .ref (cx_ra G q.2.1)) S.1 S.2.1 hZ hS S.2.2.2.1 (S.2.2.2.2.1 _ hl) (fun _ z => z) hd hk
  · exact va_getsN (C := "PlainMusic") (n := q.1) (d := "[I") (ref := "PlainMusic") (host := host) (v := .ref (cx_ra G q.2.1)) S.1 S.2.1 hZ hS S.2.2.2.1 ((S.2.2.2.2.2.1.2 _ hl rfl).use rfl) (fun _ z => z) hd hk
theorem A_ialoadT {q : String × Nat × List Int} {i : Int} (hd : decode M.2.1 pc = .ok (.iaload, 1)) (hq : q ∈ st_L) (hk : q.2.1 < n_RO) (h0 : 0 ≤ i) (h1 : i < q.2.2.length) (kk : ∀ x, x = q.2.2.getD i.toNat 0 → aw G R M cu su (pc + 1) L (av_I x :: st) h Q) : aw G R M cu su pc L (av_I i :: av_S q.2.1 :: st) h Q := by
  intro p e s m args below meth cd H locs ls S hH hO hS hb hL hn
  obtain ⟨-, e1, e2⟩ := hO.2.1 q hq
  exact A_ialoadS hd hk h0 (by rw [e1]; exact h1) (kk _ (e2 _ (by omega))) p e s m args below meth cd H locs ls S hH hO hS hb hL hn
theorem A_alenT {q : String × Nat × List Int} (hd : decode M.2.1 pc = .ok (.arraylength, 1)) (hq : q ∈ st_L) (hk : q.2.1 < n_RO) (hlt : q.2.2.length < 2147483648) {z : Int} (hz : (q.2.2.length : Int) = z) (kk : aw G R M cu su (pc + 1) L (av_I z :: st) h Q) : aw G R M cu su pc L (av_S q.2.1 :: st) h Q := by
  intro p e s m args below meth cd H locs ls S hH hO hS hb hL hn
  obtain ⟨-, e1, e2⟩ := hO.2.1 q hq
  exact A_alenS hd hk (by rw [e1]; exact hlt) (by rw [e1, hz]; exact kk) p e s m args below meth cd H locs ls S hH hO hS hb hL hn
theorem A_getsC {idx : Nat} (hl : Cond.fieldLink M.1.cls idx "java/lang/String" "COMPACT_STRINGS" "Z" ∈ gw) (hd : decode M.2.1 pc = .ok (.getstatic idx, 3)) (kk : aw G R M cu su (pc + 3) L (av_I 1 :: st) h Q) : aw G R M cu su pc L st h Q := by
  intro p e s m args below meth cd H locs ls S hH hO hS hb hL hn
  exact va_gets (C := "java/lang/String") (n := "COMPACT_STRINGS") (d := "Z") (ref := "java/lang/String") (v := .int 1) S.1 S.2.1 hO.2.2.1 hS S.2.2.2.1 (S.2.2.2.2.1 _ hl) (fun _ z => z) hd (kk p e s m args below meth cd H locs ls S hH hO hS hb hL (nv_c (i32b_ok (by decide)) hn))
theorem A_ldcS {idx i : Nat} {tx : String} (hc : M.1.cls = "PlainMusic$Tokens") (hi : sk_L[i]? = some (idx, tx)) (hd : decode M.2.1 pc = .ok (.ldc idx, 2)) (kk : aw G R M cu su (pc + 2) L (av_S (10 + i) :: st) h Q) : aw G R M cu su pc L st h Q := by
  intro p e s m args below meth cd H locs ls S hH hO hS hb hL hn
  exact va_ldcS (own := "PlainMusic$Tokens") (tx := tx) (q := cx_ra G (10 + i)) S.1 S.2.1 (by rw [← hc]; exact S.2.2.2.1) (hO.2.2.2.2.1 i _ hi) hd (kk p e s m args below meth cd H locs ls S hH hO hS hb hL (nv_c trivial hn))
theorem A_sval {idx i : Nat} (hi : i < 7) (hl : Cond.fieldLink M.1.cls idx "java/lang/String" "value" "[B" ∈ gw) (hd : decode M.2.1 pc = .ok (.getfield idx, 3)) (kk : aw G R M cu su (pc + 3) L (av_S (20 + i) :: st) h Q) : aw G R M cu su pc L (av_S (10 + i) :: st) h Q := by
  intro p e s m args below meth cd H locs ls S hH hO hS hb hL hn
  exact vk_getf (o := "java/lang/String") (n := "value") (d := "[B") (ref := "java/lang/String") (v := .ref (cx_ra G (20 + i))) S.1 S.2.1 (hO.2.2.2.1.1 i hi).2.2.1 hS S.2.2.2.1 (S.2.2.2.2.1 _ hl) (fun _ z => z) hd (kk p e s m args below meth cd H locs ls S hH hO hS hb hL (nv_c trivial (nv_t hn)))
theorem A_scod {idx i : Nat} (hi : i < 7) (hl : Cond.fieldLink M.1.cls idx "java/lang/String" "coder" "B" ∈ gw) (hd : decode M.2.1 pc = .ok (.getfield idx, 3)) (kk : aw G R M cu su (pc + 3) L (av_I 0 :: st) h Q) : aw G R M cu su pc L (av_S (10 + i) :: st) h Q := by
  intro p e s m args below meth cd H locs ls S hH hO hS hb hL hn
  exact vk_getf (o := "java/lang/String") (n := "coder") (d := "B") (ref := "java/lang/String") (v := .int 0) S.1 S.2.1 (hO.2.2.2.1.1 i hi).2.1 hS S.2.2.2.1 (S.2.2.2.2.1 _ hl) (fun _ z => z) hd (kk p e s m args below meth cd H locs ls S hH hO hS hb hL (nv_c (i32b_ok (by decide)) (nv_t hn)))
theorem A_slen {i : Nat} {z : Int} (hi : i < 7) (hz : ((sk_len.getD i 0 : Nat) : Int) = z) (hd : decode M.2.1 pc = .ok (.arraylength, 1)) (kk : aw G R M cu su (pc + 1) L (av_I z :: st) h Q) : aw G R M cu su pc L (av_S (20 + i) :: st) h Q := by
  intro p e s m args below meth cd H locs ls S hH hO hS hb hL hn
  subst hz
  refine va_tlen S.1 S.2.1 (hO.2.2.2.1.1 i hi).2.2.2 hS (v := Int32.ofInt ((sk_len.getD i 0 : Nat) : Int)) rfl hd (kk p e s m args below meth cd H locs ls S hH hO hS hb hL (nv_c ?_ (nv_t hn)))
  have : ∀ i, i < 7 → i32 ((sk_len.getD i 0 : Nat) : Int) := by unfold i32; decide
  exact this i hi
theorem A_sbyt {i : Nat} {j : Int} (hi : i < 7) (h0 : 0 ≤ j) (h1 : j < ((sk_len.getD i 0 : Nat) : Int)) (hd : decode M.2.1 pc = .ok (.baload, 1)) (kk : aw G R M cu su (pc + 1) L (av_I ((sk_byt.getD i []).getD j.toNat 0).toInt :: st) h Q) : aw G R M cu su pc L (av_I j :: av_S (20 + i) :: st) h Q := by
  intro p e s m args below meth cd H locs ls S hH hO hS hb hL hn
  refine va_tb S.1 S.2.1 (hO.2.2.2.1.1 i hi).2.2.2 hS (i32_in (nv_h hn) h0 h1) (v := .int ((sk_byt.getD i []).getD j.toNat 0)) (by rw [i32_cl (nv_h hn) h0]) hd ?_
  have hk := kk p e s m args below meth cd H locs ls S hH hO hS hb hL (nv_c (i32_of _) (nv_t (nv_t hn)))
  have e1 : cv G (av_I ((sk_byt.getD i []).getD j.toNat 0).toInt) = .int ((sk_byt.getD i []).getD j.toNat 0) := by
    show Value.int (Int32.ofInt _) = _
    rw [i32_rt]
  rw [List.map_cons, e1] at hk
  exact hk
theorem A_callT {Qa : Option av_T → ah_T → Prop} {idx d np i : Nat} {N : mr_T} (As : List av_T) (hi : i < 7) (hN : N.1.cls = "java/lang/String") (hd : decode M.2.1 pc = .ok (.invokevirtual idx, 3)) (hl : Cond.methodLink M.1.cls idx N.1 ∈ gw) (hm : mt_OK N np 1) (hnp : As.length = np) (hR : rm_OK R d N) (hf : cu ≤ R.cells ∧ su ≤ R.slots) (hst : st.length ≤ 4) (hM : con G d 0 0 N (av_S (10 + i) :: As) h Qa) (stk : List av_T) (hstk : stk = As.reverse ++ av_S (10 + i) :: st)
    (kk : ∀ r h', Qa r h' → aw G R M cu su (pc + 3) L (rp_R r st) h' Q) : aw G R M cu su pc L stk h Q := by
  intro p e s m args below meth cd H locs ls S hH hO hS hb hL hn
  subst hstk
  obtain ⟨c1, c2, c3, -, c4, -⟩ := hm
  obtain ⟨c5, c6⟩ := c4 rfl
  have hnA : ∀ v ∈ av_S (10 + i) :: As, nv v := nv_c trivial (fun v hv => hn v (List.mem_append_left _ (List.mem_reverse.mpr hv)))
  have hns : ∀ v ∈ st, nv v := fun v hv => hn v (List.mem_append_right _ (List.mem_cons_of_mem _ hv))
  have hMet := hM hnA
  have hrecv : ∃ cellB : Cell, H[cx_ra G (10 + i)]? = some cellB ∧ cellB.vm.isStatics = false ∧ s.vm.findClass N.1.cls = some cellB.cls := by
    rw [hN]
    have h7 := vk_recv (i := i) hO.2.2.2.1 hi hS
    exact h7
  have hp : PreV s H N.1.cls (cx_ra G (10 + i)) (va_Pc ((av_S (10 + i) :: As).map (cv G)) (Pc_B G h)) (As.map (cv G)) := ⟨Pc_blind, hrecv, fun U hU hW => Pc_pre S hH hO hS hb _ U hU hW⟩
  have hstack : (F0 m pc ls ((As.reverse ++ av_S (10 + i) :: st).map (cv G))).stack = (As.map (cv G)).reverse ++ .ref (cx_ra G (10 + i)) :: st.map (cv G) := by
    show List.map (cv G) (As.reverse ++ av_S (10 + i) :: st) = _
    rw [List.map_append, List.map_reverse]
    rfl
  exact acall (mc := 0) (ms := 0) (va_runV (b := cx_ra G (10 + i)) (C := N.1.cls) ⟨S.1, S.2.1, rfl, S.2.2.2.1, S.2.2.2.2.1⟩ hMet ⟨callB_of (ws' := gw) (index := idx) np S.2.2.2.2.1 (gi_M c1) rfl rfl rfl (S.2.2.2.2.1 _ c2) (S.2.2.2.2.1 _ hl) c3 hR, S.2.2.2.2.1 _ c5, S.2.2.2.2.1 _ c6⟩ hp rfl (by rw [List.length_map]; exact hnp) (by show ls.size = _; rw [hL.2.1, S.2.2.1]) hstack (lv_room (cat_sum G hst)) hd hf) S hO hS hb hL hns kk
theorem A_callT0 {Qa : Option av_T → ah_T → Prop} {idx d i : Nat} {N : mr_T} (hi : i < 7) (hN : N.1.cls = "java/lang/String") (hd : decode M.2.1 pc = .ok (.invokevirtual idx, 3)) (hl : Cond.methodLink M.1.cls idx N.1 ∈ gw) (hm : mt_OK N 0 1) (hR : rm_OK R d N) (hf : cu ≤ R.cells ∧ su ≤ R.slots) (hst : st.length ≤ 4) (hM : con G d 0 0 N [av_S (10 + i)] h Qa)
    (kk : ∀ r h', Qa r h' → aw G R M cu su (pc + 3) L (rp_R r st) h' Q) : aw G R M cu su pc L (av_S (10 + i) :: st) h Q := A_callT [] hi hN hd hl hm rfl hR hf hst hM _ rfl kk
theorem A_callT1 {Qa : Option av_T → ah_T → Prop} {idx d i : Nat} {N : mr_T} {a : av_T} (hi : i < 7) (hN : N.1.cls = "java/lang/String") (hd : decode M.2.1 pc = .ok (.invokevirtual idx, 3)) (hl : Cond.methodLink M.1.cls idx N.1 ∈ gw) (hm : mt_OK N 1 1) (hR : rm_OK R d N) (hf : cu ≤ R.cells ∧ su ≤ R.slots) (hst : st.length ≤ 4) (hM : con G d 0 0 N [av_S (10 + i), a] h Qa)
    (kk : ∀ r h', Qa r h' → aw G R M cu su (pc + 3) L (rp_R r st) h' Q) : aw G R M cu su pc L (a :: av_S (10 + i) :: st) h Q := A_callT [a] hi hN hd hl hm rfl hR hf hst hM _ rfl kk
theorem A_callT2 {Qa : Option av_T → ah_T → Prop} {idx d i : Nat} {N : mr_T} {a b : av_T} (hi : i < 7) (hN : N.1.cls = "java/lang/String") (hd : decode M.2.1 pc = .ok (.invokevirtual idx, 3)) (hl : Cond.methodLink M.1.cls idx N.1 ∈ gw) (hm : mt_OK N 2 1) (hR : rm_OK R d N) (hf : cu ≤ R.cells ∧ su ≤ R.slots) (hst : st.length ≤ 4) (hM : con G d 0 0 N [av_S (10 + i), a, b] h Qa)
    (kk : ∀ r h', Qa r h' → aw G R M cu su (pc + 3) L (rp_R r st) h' Q) : aw G R M cu su pc L (b :: a :: av_S (10 + i) :: st) h Q := A_callT [a, b] hi hN hd hl hm rfl hR hf hst hM _ rfl kk
end AWK
section AWK2
variable {G : cx_T} {R : Room} {M : mr_T} {cu su pc : Nat} {L : List (Option av_T)} {st : List av_T} {h : ah_T} {Q : Option av_T → ah_T → Prop}
theorem A_cI {x z : Int} (hz : x = z) (k : aw G R M cu su pc L (av_I z :: st) h Q) : aw G R M cu su pc L (av_I x :: st) h Q := hz ▸ k
theorem A_cL {x z : Int} (hz : x = z) (k : aw G R M cu su pc L (av_L z :: st) h Q) : aw G R M cu su pc L (av_L x :: st) h Q := hz ▸ k
theorem A_i2b {x : Int} (hd : decode M.2.1 pc = .ok (.i2b, 1)) (k : aw G R M cu su (pc + 1) L (av_I ((Int32.ofInt x).toInt8.toInt32).toInt :: st) h Q) : aw G R M cu su pc L (av_I x :: st) h Q := by
  intro p e s m args below meth c H locs ls S hH hO hS hb hL hn
  refine lv_i2b S.1 S.2.1 hd (i32_rt _).symm ?_
  exact k p e s m args below meth c H locs ls S hH hO hS hb hL (nv_c (i32_of _) (nv_t hn))
theorem A_bret {x : Int} (hd : decode M.2.1 pc = .ok (.ireturn, 1)) (hc : cu ≤ R.cells ∧ su ≤ R.slots) (hr : M.2.2.2 = some .byte) (h01 : i8b x = true) (hq : Q (some (av_I x)) h) : aw G R M cu su pc L [av_I x] h Q := by
  intro p e s m args below meth c H locs ls S hH hO hS hb hL hn
  refine W.widen hc.1 hc.2 ?_
  exact W.zret S.1 S.2.1 (S.2.2.2.2.2.2.1.trans hr) (by show Value.int (Int32.ofInt x).toInt8.toInt32 = Value.int (Int32.ofInt x); have h2 := i8b_v h01; have h3 : (Int32.ofInt x).toInt8 = Int8.ofInt x := (by simp); rw [h3, h2]) (fun t ht hw => ⟨⟨some (av_I x), h, rfl, (fun v hv => by cases hv; exact nv_h hn), hq, by rw [ht]; exact hH, ro_end hO hS ht hw⟩, hS.F ht⟩) hS.2.2 hd S.2.2.2.2.2.2.2.1
theorem A_l2d {x : Int} (hd : decode M.2.1 pc = .ok (.l2d, 1)) (k : aw G R M cu su (pc + 1) L (av_D (FP.l2d (Int64.ofInt x)) :: st) h Q) : aw G R M cu su pc L (av_L x :: st) h Q := by
  intro p e s m args below meth c H locs ls S hH hO hS hb hL hn
  refine lv_l2d S.1 S.2.1 hd ?_
  exact k p e s m args below meth c H locs ls S hH hO hS hb hL (nv_c trivial (nv_t hn))
theorem A_dadd {x y : UInt64} (hd : decode M.2.1 pc = .ok (.dadd, 1)) (hz : vf_n64 (FP.dadd x y)) (k : aw G R M cu su (pc + 1) L (av_D (FP.dadd x y) :: st) h Q) : aw G R M cu su pc L (av_D y :: av_D x :: st) h Q := by
  intro p e s m args below meth c H locs ls S hH hO hS hb hL hn
  exact lv_dadd S.1 S.2.1 hd hz (k p e s m args below meth c H locs ls S hH hO hS hb hL (nv_c trivial (nv_t (nv_t hn))))
theorem A_dsub {x y : UInt64} (hd : decode M.2.1 pc = .ok (.dsub, 1)) (hz : vf_n64 (FP.dsub x y)) (k : aw G R M cu su (pc + 1) L (av_D (FP.dsub x y) :: st) h Q) : aw G R M cu su pc L (av_D y :: av_D x :: st) h Q := by
  intro p e s m args below meth c H locs ls S hH hO hS hb hL hn
  exact lv_dsub S.1 S.2.1 hd hz (k p e s m args below meth c H locs ls S hH hO hS hb hL (nv_c trivial (nv_t (nv_t hn))))
theorem A_dmul {x y : UInt64} (hd : decode M.2.1 pc = .ok (.dmul, 1)) (hz : vf_n64 (FP.dmul x y)) (k : aw G R M cu su (pc + 1) L (av_D (FP.dmul x y) :: st) h Q) : aw G R M cu su pc L (av_D y :: av_D x :: st) h Q := by
  intro p e s m args below meth c H locs ls S hH hO hS hb hL hn
  exact lv_dmul S.1 S.2.1 hd hz (k p e s m args below meth c H locs ls S hH hO hS hb hL (nv_c trivial (nv_t (nv_t hn))))
theorem A_ddiv {x y : UInt64} (hd : decode M.2.1 pc = .ok (.ddiv, 1)) (hz : vf_n64 (FP.ddiv x y)) (k : aw G R M cu su (pc + 1) L (av_D (FP.ddiv x y) :: st) h Q) : aw G R M cu su pc L (av_D y :: av_D x :: st) h Q := by
  intro p e s m args below meth c H locs ls S hH hO hS hb hL hn
  exact lv_ddiv S.1 S.2.1 hd hz (k p e s m args below meth c H locs ls S hH hO hS hb hL (nv_c trivial (nv_t (nv_t hn))))
/-- a static of the JDK that is only carried -/
theorem A_getsF {idx : Nat} (hl : Cond.fieldLink M.1.cls idx "jdk/internal/util/Preconditions" "SIOOBE_FORMATTER" "Ljava/util/function/BiFunction;" ∈ gw) (hd : decode M.2.1 pc = .ok (.getstatic idx, 3)) (k1 : aw G R M cu su (pc + 3) L (av_R none :: st) h Q) (k2 : aw G R M cu su (pc + 3) L (av_S 9 :: st) h Q) : aw G R M cu su pc L st h Q := by
  intro p e s m args below meth cd H locs ls S hH hO hS hb hL hn
  rcases hO.2.2.2.2.2 with hZ | hZ
  · exact va_gets (C := "jdk/internal/util/Preconditions") (n := "SIOOBE_FORMATTER") (d := "Ljava/util/function/BiFunction;") (ref := "jdk/internal/util/Preconditions") (v := .null) S.1 S.2.1 hZ hS S.2.2.2.1 (S.2.2.2.2.1 _ hl) (fun _ z => z) hd (k1 p e s m args below meth cd H locs ls S hH hO hS hb hL (nv_c trivial hn))
  · exact va_gets (C := "jdk/internal/util/Preconditions") (n := "SIOOBE_FORMATTER") (d := "Ljava/util/function/BiFunction;") (ref := "jdk/internal/util/Preconditions") (v := .ref (cx_ra G 9)) S.1 S.2.1 hZ hS S.2.2.2.1 (S.2.2.2.2.1 _ hl) (fun _ z => z) hd (k2 p e s m args below meth cd H locs ls S hH hO hS hb hL (nv_c trivial hn))
end AWK2
/-! ===== small facts on bits ===== -/
theorem tab_r {l : List Int} {x : Int} {k : Nat} (e : x = l.getD k 0) {lo hi : Int} (h : (l.all (fun q => decide (lo ≤ q) && decide (q ≤ hi)) && (decide (lo ≤ 0) && decide (0 ≤ hi))) = true) : lo ≤ x ∧ x ≤ hi := by
  simp only [Bool.and_eq_true, List.all_eq_true, decide_eq_true_eq] at h
  subst e
  by_cases hk : k < l.length
  · rw [List.getD_eq_getElem?_getD, List.getElem?_eq_getElem hk]
    exact h.1 _ (List.getElem_mem hk)
  · rw [List.getD_eq_getElem?_getD, List.getElem?_eq_none (by omega)]
    exact h.2
theorem xor_neg (x y : Int) : (Int32.ofInt x ^^^ Int32.ofInt y).toInt < 0 ↔ ((Int32.ofInt x).toInt < 0) ≠ ((Int32.ofInt y).toInt < 0) := by
  have key : ∀ a b : BitVec 32, (a ^^^ b).toInt < 0 ↔ (a.toInt < 0) ≠ (b.toInt < 0) := by
    intro a b
    have h1 : ∀ v : BitVec 32, v.toInt < 0 ↔ v.msb = true := fun v => by
      rw [BitVec.msb_eq_toInt]; simp
    rw [h1, h1, h1, BitVec.msb_xor]
    cases a.msb <;> cases b.msb <;> simp
  exact key _ _
theorem xor_neg32 {x y z : Int} (e : z = (Int32.ofInt x ^^^ Int32.ofInt y).toInt) (hx : i32 x) (hy : i32 y) : z < 0 ↔ ¬ (x < 0 ↔ y < 0) := by
  rw [e, xor_neg, i32_tn hx, i32_tn hy]
  simp
theorem ishr0 {x z : Int} (e : z = (Int32.ofInt x >>> (Int32.ofInt 0 &&& 31)).toInt) (hx : i32 x) : z = x := by
  have h1 : (Int32.ofInt x >>> (Int32.ofInt 0 &&& 31)) = Int32.ofInt x := by
    have h2 : (Int32.ofInt 0 &&& 31 : Int32) = 0 := by decide
    rw [h2]; simp
  rw [e, h1, i32_tn hx]
theorem slen_r {x : Int} {i : Nat} (e : x = ((sk_len.getD i 0 : Nat) : Int)) (hi : i < 7) : 1 ≤ x ∧ x ≤ 13 := by
  have : ∀ i, i < 7 → 1 ≤ ((sk_len.getD i 0 : Nat) : Int) ∧ ((sk_len.getD i 0 : Nat) : Int) ≤ 13 := by decide
  rw [e]; exact this i hi
theorem sbyt_r {x : Int} {i j : Nat} (e : x = ((sk_byt.getD i []).getD j 0).toInt) : 0 ≤ x ∧ x ≤ 127 := by
  have h1 : ∀ l ∈ sk_byt, ∀ b ∈ l, 0 ≤ b.toInt ∧ b.toInt ≤ 127 := by decide
  rw [e]
  by_cases hi : i < sk_byt.length
  · rw [show sk_byt.getD i [] = sk_byt[i] from by rw [List.getD_eq_getElem?_getD, List.getElem?_eq_getElem hi]; rfl]
    by_cases hj : j < sk_byt[i].length
    · rw [List.getD_eq_getElem?_getD, List.getElem?_eq_getElem hj]
      exact h1 _ (List.getElem_mem hi) _ (List.getElem_mem hj)
    · rw [List.getD_eq_getElem?_getD, List.getElem?_eq_none (by omega)]
      decide
  · rw [show sk_byt.getD i [] = [] from by rw [List.getD_eq_getElem?_getD, List.getElem?_eq_none (by omega)]; rfl]
    simp
theorem i32_mem {z : Int} (h0 : 0 ≤ z) (h1 : z < 2147483648) : (Int32.ofInt z).toBitVec.toNat = z.toNat := by
  have h2 : (Int32.ofInt z).toBitVec = BitVec.ofInt 32 z := rfl
  rw [h2, BitVec.toNat_ofInt]
  omega
theorem ushr8 {x z : Int} (e : z = ((Int32.ofInt x).toUInt32 >>> ((Int32.ofInt 8).toUInt32 &&& Int32.toUInt32 31)).toInt32.toInt) (h0 : 0 ≤ x) (h1 : x ≤ 255) : z = 0 := by
  have key : ∀ n : Nat, n < 256 → ((Int32.ofInt (n : Int)).toUInt32 >>> ((Int32.ofInt 8).toUInt32 &&& Int32.toUInt32 31)).toInt32.toInt = 0 := by decide +kernel
  rw [e]
  have := key x.toNat (by omega)
  rwa [show ((x.toNat : Nat) : Int) = x by omega] at this
theorem i2b_r {x z : Int} (e : z = ((Int32.ofInt x).toInt8.toInt32).toInt) : -128 ≤ z ∧ z ≤ 127 := by
  rw [e, Int8.toInt_toInt32]
  have h1 := (Int32.ofInt x).toInt8.le_toInt
  have h2 := (Int32.ofInt x).toInt8.toInt_lt
  omega
theorem i2c_r {x : Int} (h0 : 0 ≤ x) (h1 : x < 65536) : ((((Int32.ofInt x).toUInt32 % 65536).toInt32).toInt) = x := by
  obtain ⟨k, rfl⟩ := Int.eq_ofNat_of_zero_le h0
  have h2 : (Int32.ofInt (k : Int)).toUInt32 = UInt32.ofNat k := by
    apply UInt32.toNat_inj.mp
    show (Int32.ofInt (k : Int)).toBitVec.toNat = _
    rw [i32_mem (by omega) (by omega)]
    rw [UInt32.toNat_ofNat']
    omega
  rw [h2]
  have h3 : (UInt32.ofNat k % 65536) = UInt32.ofNat k := by
    apply UInt32.toNat_inj.mp
    rw [UInt32.toNat_mod]
    rw [UInt32.toNat_ofNat']
    show (k % 4294967296) % 65536 = k % 4294967296
    omega
  rw [h3]
  have h4 : (UInt32.ofNat k).toInt32 = Int32.ofInt (k : Int) := by rw [← h2]; rfl
  rw [h4, i32_tn (by unfold i32; omega)]
theorem rem_p {x y z : Int} (e : z = x.tmod y) (hy : 0 < y) : (0 ≤ x ∧ 0 ≤ z ∧ z < y ∧ z = x % y) ∨ (x < 0 ∧ z = 0 ∧ x % y = 0) ∨ (x < 0 ∧ z < 0 ∧ -y < z ∧ z + y = x % y) := by
  have h0 : 0 ≤ x % y := Int.emod_nonneg _ (by omega)
  have h1 : x % y < y := Int.emod_lt_of_pos _ hy
  rcases Int.le_total 0 x with hx | hx
  · rw [Int.tmod_eq_emod_of_nonneg hx] at e
    omega
  · by_cases hx0 : x = 0
    · subst hx0; have h9 : (0 : Int) % y = 0 := Int.zero_emod y; simp at e; omega
    · have e2 : x.tmod y = x % y - if 0 ≤ x ∨ y ∣ x then 0 else y.natAbs := Int.tmod_eq_emod
      rw [e2] at e
      by_cases hd : y ∣ x
      · rw [if_pos (Or.inr hd)] at e
        have := Int.emod_eq_zero_of_dvd hd
        omega
      · rw [if_neg (by rintro (q | q); omega; exact hd q)] at e
        have h2 : x % y ≠ 0 := fun q => hd (Int.dvd_of_emod_eq_zero q)
        omega
theorem div_p {x y z : Int} (e : z = w32 (x.tdiv y)) (hx32 : i32 x) (hy : 2 ≤ y) : ((0 ≤ x ∧ z = x / y ∧ 0 ≤ z ∧ z ≤ x) ∨ (x < 0 ∧ z * y = x ∧ z = x / y ∧ x ≤ z ∧ z ≤ 0) ∨ (x < 0 ∧ z * y ≠ x ∧ z - 1 = x / y ∧ x < z ∧ z ≤ 0)) ∧ i32 (z * y) ∧ -1073741824 ≤ z ∧ z ≤ 1073741824 := by
  unfold i32 at hx32
  rcases Int.le_total 0 x with hx | hx
  · rw [Int.tdiv_eq_ediv_of_nonneg hx] at e
    have h1 : 0 ≤ x / y := Int.ediv_nonneg hx (by omega)
    have h2 : x / y ≤ x := Int.ediv_le_self _ hx
    have h3 : x / y * y ≤ x := Int.ediv_mul_le x (by omega)
    have h4 : 0 ≤ x / y * y := Int.mul_nonneg h1 (by omega)
    rw [w32_id (by unfold i32; omega)] at e
    subst e
    have h5 : x / y * 2 ≤ x / y * y := Int.mul_le_mul_of_nonneg_left hy h1
    exact ⟨Or.inl ⟨hx, rfl, h1, h2⟩, by unfold i32; omega, by omega, by omega⟩
  · by_cases hx0 : x = 0
    · subst hx0
      have e1 : z = 0 := by rw [e, Int.zero_tdiv]; decide
      subst e1
      exact ⟨Or.inl ⟨by omega, by rw [Int.zero_ediv], by omega, by omega⟩, by unfold i32; omega, by omega, by omega⟩
    · have e0 : x.tdiv y = -((-x) / y) := by
        have h5 : x = -(-x) := by omega
        have h6 : (-(-x)).tdiv y = -((-x).tdiv y) := Int.neg_tdiv _ _
        have h7 : x.tdiv y = (-(-x)).tdiv y := congrArg (fun q => Int.tdiv q y) h5
        rw [h7, h6, Int.tdiv_eq_ediv_of_nonneg (by omega)]
      have q1 : 0 ≤ (-x) / y := Int.ediv_nonneg (by omega) (by omega)
      have q2 : (-x) / y * y ≤ -x := Int.ediv_mul_le (-x) (by omega)
      have q3 : -x < ((-x) / y + 1) * y := Int.lt_ediv_add_one_mul_self (-x) (by omega)
      rw [e0] at e
      generalize hq : (-x) / y = q at *
      have q4 : q * 2 ≤ q * y := Int.mul_le_mul_of_nonneg_left hy q1
      have q5 : (q + 1) * y = q * y + y := by rw [Int.add_mul]; omega
      rw [w32_id (by unfold i32; omega)] at e
      subst e
      have q6 : -q * y = -(q * y) := Int.neg_mul q y
      refine ⟨Or.inr ?_, by unfold i32; omega, by omega, by omega⟩
      by_cases hr : q * y = -x
      · refine Or.inl ⟨by omega, by omega, ?_, by omega, by omega⟩
        have h7 : x = -q * y := by omega
        rw [h7, Int.mul_ediv_cancel _ (by omega)]
      · refine Or.inr ⟨by omega, by omega, ?_, by omega, by omega⟩
        have h8 : (-q - 1) * y = -(q * y) - y := by rw [Int.sub_mul, q6]; omega
        have h9 : -q - 1 ≤ x / y := (Int.le_ediv_iff_mul_le (by omega)).mpr (by omega)
        have h10 : x / y < -q := (Int.ediv_lt_iff_lt_mul (by omega)).mpr (by omega)
        omega
theorem and_id {x z m : Int} (k : Nat) (e : z = (Int32.ofInt x &&& Int32.ofInt m).toInt) (hm : (Int32.ofInt m).toBitVec.toNat = 2 ^ k - 1) (hk : k ≤ 30) (hm2 : m + 1 = ((2 ^ k : Nat) : Int)) (h0 : 0 ≤ x) (h1 : x ≤ m) : z = x := by
  rw [pk_and _ k hm] at e
  have h2 : 2 ^ k ≤ 2 ^ 30 := Nat.pow_le_pow_right (by decide) hk
  have h3 : (Int32.ofInt x).toBitVec.toNat = x.toNat := i32_mem h0 (by omega)
  rw [h3, Nat.mod_eq_of_lt (by omega), nI_toInt (by omega)] at e
  omega

/-! ===== contracts of java.lang.Math's own methods ===== -/
theorem mathRows0 : (Jvm.natives.all fun r => r.cls != "java/lang/Math" || !(["(II)I", "(JJ)J"].contains r.desc)) = true := by decide +kernel
theorem mathPlain0 {x : MethodName} (hc : x.cls = "java/lang/Math") (hd : ["(II)I", "(JJ)J"].contains x.desc = true) : plainFor x = true := by
  unfold plainFor
  rw [Bool.or_eq_true]; right
  rw [Option.isNone_iff_eq_none, NativeRow.find?, List.find?_eq_none]
  intro r hr h
  have h9 := List.all_eq_true.mp mathRows0 r hr
  simp only [Bool.and_eq_true, beq_iff_eq] at h
  rw [h.1.2, h.2, hc, hd] at h9
  simp at h9
theorem Met_ofF {l : Launch} {y : MethodName} {ws ws' : List Cond} {rm : Room} {Pc : Array Value → State → Prop} {Qc : Array Value → State → Outcome → State → Prop} {mc ms : Nat} {free : Addr → Prop} {cc : ByteArray} {maxL : Nat} {ret : Option FieldType}
    (hy : plainFor y = true) (hw : ws = Cond.code y cc maxL ret :: ws')
    (body : ∀ p e s m args below meth c s₁, BodyLoose p l y (headSpec ws rm) cc maxL ret e s m args below meth c s₁ → c.maxLocals = maxL → Pc args s →
      W p l e (headSpec ws rm).room s m args below meth c s.heap [] 0 0 (MQ below Qc args s mc ms free) (entryFrame m args maxL)) : Met l y ws rm Pc Qc mc ms free := by
  refine MetFree.of_bodySF (code := cc) (maxLocals := maxL) (ret := ret) hy ?_ ?_
  · intro args s m h hn
    obtain ⟨meth, c, h1, h2, h3, h4, h5, h6, -, -⟩ := Cond.code_spec hn (atoms_spec (ws := ws) h _ (by rw [hw]; exact List.mem_cons_self))
    exact ⟨meth, c, h1, h2, h3, h4, h5, h6⟩
  · intro p e s m args below meth c s₁ B hml hP _
    have hh0 : s₁.heap = s.heap := by rw [B.state]; rfl
    obtain ⟨t, a1, o, b1, b2, b3⟩ := body p e s m args below meth c s₁ B hml hP s₁ hh0 (Stand.of_body B)
    exact ⟨t, o, a1, b1, b2, ⟨b3.1, b3.2⟩⟩
theorem con_ofF {G : cx_T} {d mc ms : Nat} {M : mr_T} {As : List av_T} {h : ah_T} {Q : Option av_T → ah_T → Prop} (hy : plainFor M.1 = true) (hl : (arg_l As).length ≤ M.2.2.1) {L : List (Option av_T)} (hL : arg_L M.2.2.1 As = L)
    (k : aw G (rm_R d mc ms) M 0 0 0 L [] h Q) : con G d mc ms M As h Q := by
  intro hn
  subst hL
  refine Met_ofF (cc := M.2.1) (maxL := M.2.2.1) (ret := M.2.2.2) hy rfl ?_
  intro p e s m args below meth c s₁ B hml hv
  obtain ⟨rfl, hH, hO, hK, hb⟩ := hv
  have hts := atoms_spec (ws := mr_w M :: gw) B.pre
  rw [lg_entry_eq]
  exact k p e s m _ below meth c s.heap [] _ ⟨B.exec, B.bytes, hml, findClass_of_methodNamed B.named, fun w hw => hts w (List.mem_cons_of_mem _ hw), hK, B.returns, B.notSynchronized, fun hi => ((name_of_methodNamed B.named B.method).1).trans hi⟩ hH hO va_S.rf hb (lr_entry hn hl) (fun v hv => by cases hv)
/-! ===== small facts for the walks ===== -/
theorem mul_nn32 {x y z ux uy : Int} (e : z = w32 (x * y)) (hx : 0 ≤ x) (hy : 0 ≤ y) (hux : x ≤ ux) (huy : y ≤ uy) (hm : ux * uy < 2147483648) : 0 ≤ z ∧ z ≤ ux * uy ∧ z = x * y := by
  have h1 : 0 ≤ x * y := Int.mul_nonneg hx hy
  have h2 : x * y ≤ ux * uy := Int.mul_le_mul hux huy hy (by omega)
  rw [w32_id (by unfold i32; omega)] at e
  subst e
  exact ⟨h1, h2, rfl⟩
theorem mul_nn64 {x y z ux uy : Int} (e : z = w64 (x * y)) (hx : 0 ≤ x) (hy : 0 ≤ y) (hux : x ≤ ux) (huy : y ≤ uy) (hm : ux * uy < 9223372036854775808) : 0 ≤ z ∧ z ≤ ux * uy ∧ z = x * y := by
  have h1 : 0 ≤ x * y := Int.mul_nonneg hx hy
  have h2 : x * y ≤ ux * uy := Int.mul_le_mul hux huy hy (by omega)
  rw [w64_id (by unfold i64; omega)] at e
  subst e
  exact ⟨h1, h2, rfl⟩
theorem w32_to {x z : Int} (e : x = z) (hz : i32 z) : w32 x = z := by rw [e]; exact w32_id hz
theorem w64_to {x z : Int} (e : x = z) (hz : i64 z) : w64 x = z := by rw [e]; exact w64_id hz
theorem rem_nn {x y z : Int} (e : z = x.tmod y) (hx : 0 ≤ x) (hy : 1 ≤ y) : 0 ≤ z ∧ z ≤ x ∧ z < y ∧ z = x % y := by
  rw [Int.tmod_eq_emod_of_nonneg hx] at e
  subst e
  have h1 : 0 ≤ y * (x / y) := Int.mul_nonneg (by omega) (Int.ediv_nonneg hx (by omega))
  have h2 : x % y + y * (x / y) = x := Int.emod_add_mul_ediv x y
  exact ⟨Int.emod_nonneg _ (by omega), by omega, Int.emod_lt_of_pos _ (by omega), rfl⟩
theorem rem_c {x y z : Int} (e : z = x.tmod y) (hy : 0 < y) : -y < z ∧ z < y := by
  subst e
  have h1 := Int.natAbs_tmod x y
  have h2 : (x.tmod y).natAbs < y.natAbs := by rw [h1]; exact Nat.mod_lt _ (by omega)
  omega
theorem div_nn32 {x y z : Int} (e : z = w32 (x.tdiv y)) (hx : 0 ≤ x) (hy : 1 ≤ y) (hu : x < 2147483648) : 0 ≤ z ∧ z ≤ x ∧ z = x / y := by
  rw [Int.tdiv_eq_ediv_of_nonneg hx] at e
  have h1 : 0 ≤ x / y := Int.ediv_nonneg hx (by omega)
  have h2 : x / y ≤ x := Int.ediv_le_self _ hx
  rw [w32_id (by unfold i32; omega)] at e
  subst e
  exact ⟨h1, h2, rfl⟩
theorem div_nn64 {x y z : Int} (e : z = w64 (x.tdiv y)) (hx : 0 ≤ x) (hy : 1 ≤ y) (hu : x < 9223372036854775808) : 0 ≤ z ∧ z ≤ x ∧ z = x / y := by
  rw [Int.tdiv_eq_ediv_of_nonneg hx] at e
  have h1 : 0 ≤ x / y := Int.ediv_nonneg hx (by omega)
  have h2 : x / y ≤ x := Int.ediv_le_self _ hx
  rw [w64_id (by unfold i64; omega)] at e
  subst e
  exact ⟨h1, h2, rfl⟩
theorem abs_r {x z : Int} (e : z = if 0 ≤ x then x else w32 (0 - x)) (h : -2147483647 ≤ x) : 0 ≤ z ∧ (z = x ∨ z = -x) := by
  by_cases h0 : 0 ≤ x
  · rw [if_pos h0] at e; omega
  · rw [if_neg h0] at e
    by_cases h1 : x ≤ 2147483647
    · rw [w32_id (by unfold i32; omega)] at e; omega
    · omega
theorem mmin_r {x y z : Int} (e : z = if y < x then y else x) : z ≤ x ∧ z ≤ y ∧ (z = x ∨ z = y) := by
  split at e <;> omega
theorem mmax_r {x y z : Int} (e : z = if x < y then y else x) : x ≤ z ∧ y ≤ z ∧ (z = x ∨ z = y) := by
  split at e <;> omega
theorem and_r {x z m : Int} (k : Nat) (e : z = (Int32.ofInt x &&& Int32.ofInt m).toInt) (hm : (Int32.ofInt m).toBitVec.toNat = 2 ^ k - 1) (hk : k ≤ 30) (hm2 : m + 1 = ((2 ^ k : Nat) : Int)) : 0 ≤ z ∧ z ≤ m := by
  rw [pk_and _ k hm] at e
  have h1 : (Int32.ofInt x).toBitVec.toNat % 2 ^ k < 2 ^ k := Nat.mod_lt _ (Nat.two_pow_pos k)
  have h2 : 2 ^ k ≤ 2 ^ 30 := Nat.pow_le_pow_right (by decide) hk
  rw [nI_toInt (by omega)] at e
  omega
theorem mul_pp32 {x y z ux uy : Int} (e : z = w32 (x * y)) (hx : 1 ≤ x) (hy : 1 ≤ y) (hux : x ≤ ux) (huy : y ≤ uy) (hm : ux * uy < 2147483648) : 1 ≤ z ∧ z ≤ ux * uy ∧ z = x * y := by
  obtain ⟨h1, h2, h3⟩ := mul_nn32 e (by omega) (by omega) hux huy hm
  have h4 : 0 < x * y := Int.mul_pos (by omega) (by omega)
  exact ⟨by omega, h2, h3⟩
theorem mul_pp64 {x y z ux uy : Int} (e : z = w64 (x * y)) (hx : 1 ≤ x) (hy : 1 ≤ y) (hux : x ≤ ux) (huy : y ≤ uy) (hm : ux * uy < 9223372036854775808) : 1 ≤ z ∧ z ≤ ux * uy ∧ z = x * y := by
  obtain ⟨h1, h2, h3⟩ := mul_nn64 e (by omega) (by omega) hux huy hm
  have h4 : 0 < x * y := Int.mul_pos (by omega) (by omega)
  exact ⟨by omega, h2, h3⟩
theorem div_ge1 {x y z : Int} (e : z = x / y) (hy : 1 ≤ y) (hxy : y ≤ x) : 1 ≤ z := by
  rw [e]
  exact (Int.le_ediv_iff_mul_le (by omega)).mpr (by omega)
theorem lshl_s {x y z : Int} (hx : x = 1 ∨ x = 2) (e : z = (Int64.ofInt x <<< ((Int32.ofInt y).toInt64 &&& 63)).toInt) (h0 : 0 ≤ y) (h1 : y ≤ 3) : x ≤ z ∧ z ≤ x * 8 := by
  have hy : y = 0 ∨ y = 1 ∨ y = 2 ∨ y = 3 := by omega
  rcases hx with rfl | rfl <;> rcases hy with rfl | rfl | rfl | rfl <;> (rw [e]; decide)
/-- Euclid's loop -/
def gdv (a b : Int) : Int := if (Int.gcd a b : Int) = 0 then 1 else (Int.gcd a b : Int)
def gdi (a b g l t : Int) : Prop := 0 ≤ g ∧ 0 ≤ l ∧ Int.gcd g l = Int.gcd a b ∧ ((t = 0 ∧ g < 9223372036854775808 ∧ l < 9223372036854775808) ∨ (1 ≤ t ∧ l < g ∧ g * l * 2 ^ (t.toNat - 1) ≤ 85070591730234615865843651857942052864))
theorem gdv_1 (a b : Int) : 1 ≤ gdv a b := by
  unfold gdv
  split <;> omega
theorem gdv_le {a b : Int} (ha : 1 ≤ a) (hb : 0 ≤ b) : gdv a b ≤ a := by
  unfold gdv
  split
  · exact ha
  · exact Int.gcd_le_left b (by omega)
theorem gdi_0 {a b : Int} (ha : 0 ≤ a) (hb : 0 ≤ b) (ha2 : a < 9223372036854775808) (hb2 : b < 9223372036854775808) : gdi a b a b 0 := ⟨ha, hb, rfl, Or.inl ⟨rfl, ha2, hb2⟩⟩
theorem gcd_mod (g l : Int) : Int.gcd l (g % l) = Int.gcd g l := by
  rw [Int.gcd_comm l (g % l)]
  have h1 : Int.gcd (g % l + l * (g / l)) l = Int.gcd (g % l) l := Int.gcd_add_mul_left_left l (g % l) (g / l)
  rw [Int.emod_add_mul_ediv] at h1
  exact h1.symm
theorem gdi_s {a b g l t r : Int} (h : gdi a b g l t) (ht : 0 ≤ t) (hl : l ≠ 0) (hr : r = g.tmod l) : gdi a b l r (t + 1) := by
  obtain ⟨h1, h2, h3, h4⟩ := h
  have er : r = g % l := by rw [hr, Int.tmod_eq_emod_of_nonneg h1]
  have r0 : 0 ≤ r := by rw [er]; exact Int.emod_nonneg _ hl
  have r1 : r < l := by rw [er]; exact Int.emod_lt_of_pos _ (by omega)
  refine ⟨h2, r0, by rw [er, gcd_mod, h3], Or.inr ⟨by omega, r1, ?_⟩⟩
  rcases h4 with ⟨t0, g1, l1⟩ | ⟨t1, lg, hb⟩
  · subst t0
    have : l * r ≤ 9223372036854775808 * 9223372036854775808 := Int.mul_le_mul (by omega) (by omega) r0 (by omega)
    simpa using this
  · have d1 := Int.emod_add_mul_ediv g l
    have d2 : 1 ≤ g / l := (Int.le_ediv_iff_mul_le (by omega)).mpr (by omega)
    have d3 : l * 1 ≤ l * (g / l) := Int.mul_le_mul_of_nonneg_left d2 h2
    have d4 : 2 * r ≤ g := by omega
    have d5 : l * (2 * r) ≤ l * g := Int.mul_le_mul_of_nonneg_left d4 h2
    have e1 : (t + 1).toNat - 1 = (t.toNat - 1) + 1 := by omega
    rw [e1, Int.pow_succ]
    have p0 : (0 : Int) ≤ 2 ^ (t.toNat - 1) := Int.pow_nonneg (by decide)
    have d6 : l * (2 * r) * 2 ^ (t.toNat - 1) ≤ l * g * 2 ^ (t.toNat - 1) := Int.mul_le_mul_of_nonneg_right d5 p0
    have e2 : l * r * (2 ^ (t.toNat - 1) * 2) = l * (2 * r) * 2 ^ (t.toNat - 1) := by
      simp only [Int.mul_assoc, Int.mul_comm, Int.mul_left_comm]
    have e3 : l * g * 2 ^ (t.toNat - 1) = g * l * 2 ^ (t.toNat - 1) := by rw [Int.mul_comm l g]
    omega
theorem gdi_e {a b g l t : Int} (h : gdi a b g l t) (hx : l = 0 ∨ 200 ≤ t) : (g < 1 → 1 = gdv a b) ∧ (1 ≤ g → g = gdv a b) := by
  obtain ⟨h1, h2, h3, h4⟩ := h
  have hl : l = 0 := by
    rcases hx with hx | hx
    · exact hx
    · rcases h4 with ⟨t0, -, -⟩ | ⟨t1, lg, hb⟩
      · omega
      · rcases Int.le_iff_lt_or_eq.mp h2 with h5 | h5
        · exfalso
          have p1 : (2 : Int) ^ 199 ≤ 2 ^ (t.toNat - 1) := by
            have h9 := Nat.pow_le_pow_right (show 0 < 2 by decide) (show 199 ≤ t.toNat - 1 by omega)
            have h10 : ((2 ^ 199 : Nat) : Int) ≤ ((2 ^ (t.toNat - 1) : Nat) : Int) := by exact_mod_cast h9
            simpa using h10
          have p2 : 1 ≤ g * l := by
            have : 0 < g * l := Int.mul_pos (by omega) h5
            omega
          have p3 : 1 * 2 ^ (t.toNat - 1) ≤ g * l * 2 ^ (t.toNat - 1) := Int.mul_le_mul_of_nonneg_right p2 (Int.pow_nonneg (by decide))
          have p4 : (85070591730234615865843651857942052864 : Int) < 2 ^ 199 := by decide
          omega
        · exact h5.symm
  subst hl
  have h5 : Int.gcd a b = g.natAbs := by rw [← h3]; simp
  have h6 : (Int.gcd a b : Int) = g := by rw [h5]; omega
  unfold gdv
  rw [h6]
  constructor
  · intro h7
    rw [if_pos (by omega)]
  · intro h7
    rw [if_neg (by omega)]
section AWR2
variable {G : cx_T} {R : Room} {M : mr_T} {cu su pc : Nat} {L : List (Option av_T)} {st : List av_T} {h : ah_T} {Q : Option av_T → ah_T → Prop}
theorem A_putRk {KR : ah_T → Prop} {idx c k : Nat} {ty : FieldType} {fin : Bool} {a n : Nat} {z : Option Nat} (hT : tbl_OK) (hd : decode M.2.1 pc = .ok (.putfield idx, 3)) (hf : fl_OK M.1.cls idx c k ty fin) (hty : (∃ n, ty = .object n) ∨ ∃ n, ty = .array n) (hs : h.1[a]? = some (c + 4, n)) (hfin : fin_OK M c fin) (hk : KR (st_r h a k z)) (kk : ∀ h', KR h' → (h'.2.1 = h.2.1 ∧ h'.2.2.1 = h.2.2.1) → aw G R M cu su (pc + 3) L st h' Q) : aw G R M cu su pc L (av_R z :: av_R (some a) :: st) h Q := A_putR hT hd hf hty hs hfin (kk _ hk ⟨rfl, rfl⟩)
end AWR2
def gd2 (a b g l t : Int) : Prop := (t = 0 ∧ g = a ∧ l = b) ∨ (1 ≤ t ∧ -b ≤ g ∧ g ≤ b ∧ -b ≤ l ∧ l ≤ b)
theorem gd2_0 {a b : Int} : gd2 a b a b 0 := Or.inl ⟨rfl, rfl, rfl⟩
theorem gd2_s {a b g l t r : Int} (h : gd2 a b g l t) (ht : 0 ≤ t) (hb : 1 ≤ b) (hl : l ≠ 0) (hr : r = g.tmod l) : gd2 a b l r (t + 1) := by
  have h1 : (g.tmod l).natAbs = g.natAbs % l.natAbs := Int.natAbs_tmod g l
  have h2 : g.natAbs % l.natAbs < l.natAbs := Nat.mod_lt _ (by omega)
  have h3 : (g.tmod l).natAbs < l.natAbs := by rw [h1]; exact h2
  rw [← hr] at h3
  clear h1 h2 hr
  unfold gd2 at *
  omega
theorem gd2_e {a b g l t : Int} (h : gd2 a b g l t) (hb : 1 ≤ b) (hx : l = 0 ∨ 200 ≤ t) : g ≤ b := by unfold gd2 at h; omega

/-! ===== doubles that are no NaN: sizes ===== -/
theorem fp_t : FP.Core.b64.tails = 4503599627370496 := by decide
theorem fp_x : FP.Core.b64.exps = 2048 := by decide
theorem fp_qn : FP.Core.b64.qmin = -1074 := by decide
theorem fp_qx : FP.Core.b64.qmax = 971 := by decide
theorem fp_p : (2 : Nat) ^ FP.Core.b64.p = 9007199254740992 := by decide
def dm (d : UInt64) : FP.Core.Datum := FP.Core.decode FP.Core.b64 d.toNat
def fpd_OK (s : Bool) (c : Nat) (q : Int) : Prop := c < 9007199254740992 ∧ -1074 ≤ q ∧ q ≤ 971 ∧ (q = -1074 ∨ 4503599627370496 ≤ c)
theorem enc_dm {s : Bool} {c : Nat} {q : Int} (h : fpd_OK s c q) : dm (UInt64.ofNat (FP.Core.encode FP.Core.b64 (.fin s c q))) = .fin s c q ∧ vf_n64 (UInt64.ofNat (FP.Core.encode FP.Core.b64 (.fin s c q))) := by
  obtain ⟨h1, h2, h3, h4⟩ := h
  have hn : ∃ b e t : Nat, b < 2 ∧ e < 2047 ∧ t < 4503599627370496 ∧ b = s.toNat ∧ FP.Core.encode FP.Core.b64 (.fin s c q) = (b * 2048 + e) * 4503599627370496 + t ∧ ((e = 0 ∧ t = c ∧ q = -1074) ∨ (e ≠ 0 ∧ 4503599627370496 + t = c ∧ q = -1074 + ((e : Int) - 1))) := by
    unfold FP.Core.encode FP.Core.assemble
    rw [fp_t, fp_x, fp_qn]
    have hb : s.toNat < 2 := by cases s <;> decide
    by_cases hc : c < 4503599627370496
    · dsimp only
      rw [if_pos hc]
      exact ⟨s.toNat, 0, c, hb, by omega, hc, rfl, by omega, Or.inl ⟨rfl, rfl, by omega⟩⟩
    · dsimp only
      rw [if_neg hc]
      exact ⟨s.toNat, (q - -1074).toNat + 1, c - 4503599627370496, hb, by omega, by omega, rfl, rfl, Or.inr ⟨by omega, by omega, by omega⟩⟩
  obtain ⟨b, e, t, hb, he, ht, hs, hE, hc⟩ := hn
  rw [hE]
  generalize hN : (b * 2048 + e) * 4503599627370496 + t = N
  have hlt : N < 18446744073709551616 := by omega
  have hto : (UInt64.ofNat N).toNat = N := by rw [UInt64.toNat_ofNat']; exact Nat.mod_eq_of_lt hlt
  constructor
  · unfold dm
    rw [hto]
    unfold FP.Core.decode FP.Core.fieldE FP.Core.fieldT FP.Core.fieldS
    rw [fp_t, fp_x, fp_qn]
    have e1 : N / 4503599627370496 % 2048 = e := by omega
    have e2 : N % 4503599627370496 = t := by omega
    have e3 : N / 4503599627370496 / 2048 % 2 = b := by omega
    rw [e1, e2, e3, if_neg (by omega)]
    have e4 : (b == 1) = s := by rw [hs]; cases s <;> rfl
    rw [e4]
    rcases hc with ⟨q1, q2, q3⟩ | ⟨q1, q2, q3⟩
    · rw [if_pos q1, q2, q3]
    · rw [if_neg q1, q2, q3]
  · unfold vf_n64
    apply UInt64.le_iff_toNat_le.mpr
    rw [UInt64.toNat_and, hto]
    have e5 : (9223372036854775807 : UInt64).toNat = 2 ^ 63 - 1 := by decide
    have e6 : (9218868437227405312 : UInt64).toNat = 9218868437227405312 := by decide
    rw [e5, e6, Nat.and_two_pow_sub_one_eq_mod]
    omega
theorem lead_s {A B : Nat} (hA : 0 < A) (hB : 0 < B) : B * 2 ^ (FP.Core.leading A B).toNat ≤ A * 2 ^ (-(FP.Core.leading A B)).toNat ∧ A * 2 ^ (-(FP.Core.leading A B + 1)).toNat < B * 2 ^ (FP.Core.leading A B + 1).toNat := by
  have a1 : 2 ^ A.log2 ≤ A := Nat.log2_self_le (by omega)
  have a2 : A < 2 ^ (A.log2 + 1) := Nat.lt_log2_self
  have b1 : 2 ^ B.log2 ≤ B := Nat.log2_self_le (by omega)
  have b2 : B < 2 ^ (B.log2 + 1) := Nat.lt_log2_self
  have pm : ∀ x y z : Nat, x ≤ y → x * 2 ^ z ≤ y * 2 ^ z := fun x y z h => Nat.mul_le_mul_right _ h
  have pml : ∀ x y z : Nat, x < y → x * 2 ^ z < y * 2 ^ z := fun x y z h => Nat.mul_lt_mul_of_pos_right h (Nat.two_pow_pos _)
  have pe : ∀ x y z w : Nat, x + y = z + w → 2 ^ x * 2 ^ y = 2 ^ z * 2 ^ w := fun x y z w h => by rw [← Nat.pow_add, ← Nat.pow_add, h]
  unfold FP.Core.leading
  generalize A.log2 = n at *
  generalize B.log2 = d at *
  dsimp only
  split
  · rename_i hc
    refine ⟨hc, ?_⟩
    calc A * 2 ^ (-((n : Int) - d + 1)).toNat < 2 ^ (n + 1) * 2 ^ (-((n : Int) - d + 1)).toNat := pml _ _ _ a2
      _ = 2 ^ d * 2 ^ ((n : Int) - d + 1).toNat := pe _ _ _ _ (by omega)
      _ ≤ B * 2 ^ ((n : Int) - d + 1).toNat := pm _ _ _ b1
  · rename_i hc
    constructor
    · calc B * 2 ^ ((n : Int) - d - 1).toNat ≤ 2 ^ (d + 1) * 2 ^ ((n : Int) - d - 1).toNat := pm _ _ _ (Nat.le_of_lt b2)
        _ = 2 ^ n * 2 ^ (-((n : Int) - d - 1)).toNat := pe _ _ _ _ (by omega)
        _ ≤ A * 2 ^ (-((n : Int) - d - 1)).toNat := pm _ _ _ a1
    · rw [show (n : Int) - d - 1 + 1 = (n : Int) - d by omega]
      omega
/-- A / B * 2^e is at most N units of 2^-1074 -/
def ub (A B : Nat) (e : Int) (N : Nat) : Prop := A * 2 ^ (e + 1074).toNat ≤ N * (B * 2 ^ (-1074 - e).toNat)
def lb (A B : Nat) (e : Int) (L : Nat) : Prop := B * 2 ^ (-1074 - e).toNat * 2 ^ 1074 ≤ A * 2 ^ (e + 1074).toNat * 2 ^ L
theorem pw_c {x y z : Nat} (h : x * 2 ^ z ≤ y * 2 ^ z) : x ≤ y := Nat.le_of_mul_le_mul_right h (Nat.two_pow_pos z)
theorem near_le {A B M : Nat} (hB : 0 < B) (h : A ≤ M * B) : FP.Core.nearest A B ≤ M := by
  have h1 := Nat.div_add_mod A B
  have h2 := Nat.mod_lt A hB
  by_cases hm : A / B < M
  · unfold FP.Core.nearest
    split
    · omega
    · split <;> omega
  · have h3 : B * M ≤ B * (A / B) := Nat.mul_le_mul_left _ (by omega)
    have h4 : A % B = 0 := by rw [Nat.mul_comm M B] at h; omega
    have h5 : B * (A / B) ≤ B * M := by rw [Nat.mul_comm M B] at h; omega
    have h6 : A / B ≤ M := Nat.le_of_mul_le_mul_left h5 hB
    unfold FP.Core.nearest
    rw [h4, if_pos (by omega)]
    exact h6
theorem near_ge {A B M : Nat} (hB : 0 < B) (h : M * B ≤ A) : M ≤ FP.Core.nearest A B := by
  have h1 : M ≤ A / B := (Nat.le_div_iff_mul_le hB).mpr h
  unfold FP.Core.nearest
  split
  · exact h1
  · split <;> omega
theorem rr_ok (s : Bool) {A B n T : Nat} {e : Int} (hB : 0 < B) (hn : n < 9007199254740992) (hT : T ≤ 900) (hu : ub A B e (n * 2 ^ (T + 1074))) :
    ∃ c q, FP.Core.roundRatio FP.Core.b64 s A B e = .fin s c q ∧ fpd_OK s c q ∧ c * 2 ^ (q + 1074).toNat ≤ n * 2 ^ (T + 1074) ∧ ∀ L, L ≤ 900 → lb A B e L → 2 ^ 1074 ≤ c * 2 ^ (q + 1074).toNat * 2 ^ L := by
  by_cases hA : A = 0
  · subst hA
    refine ⟨0, -1074, by unfold FP.Core.roundRatio; rw [if_pos rfl, fp_qn], ⟨by omega, by omega, by omega, Or.inl rfl⟩, by omega, fun L _ hl => ?_⟩
    unfold lb at hl
    have h9 : 0 < B * 2 ^ (-1074 - e).toNat * 2 ^ 1074 := Nat.mul_pos (Nat.mul_pos hB (Nat.two_pow_pos _)) (Nat.two_pow_pos _)
    rw [Nat.zero_mul, Nat.zero_mul] at hl
    omega
  · have hA0 : 0 < A := by omega
    obtain ⟨l1, l2⟩ := lead_s hA0 hB
    have hq : FP.Core.quantum FP.Core.b64 A B e = max (-1074) (FP.Core.leading A B + e - 52) := by
      unfold FP.Core.quantum
      rw [fp_qn]
      rfl
    generalize hk : FP.Core.leading A B = k at *
    unfold FP.Core.roundRatio
    rw [if_neg hA, hq]
    generalize hqq : max (-1074) (k + e - 52) = q
    have q0 : -1074 ≤ q := by omega
    unfold FP.Core.roundAt FP.Core.unitsNum FP.Core.unitsDen
    have hD : 0 < B * 2 ^ (q - e).toNat := Nat.mul_pos hB (Nat.two_pow_pos _)
    generalize hm : FP.Core.nearest (A * 2 ^ (e - q).toNat) (B * 2 ^ (q - e).toNat) = m
    have pe : ∀ x y z w : Nat, x + y = z + w → 2 ^ x * 2 ^ y = 2 ^ z * 2 ^ w := fun x y z w h => by rw [← Nat.pow_add, ← Nat.pow_add, h]
    -- where the quantum is not the least one, the value is at least 2^(q+52)
    have big : q ≠ -1074 → B * 2 ^ (q - e).toNat * 2 ^ 52 ≤ A * 2 ^ (e - q).toNat := by
      intro hne
      have hk2 : k = q - e + 52 := by omega
      apply pw_c (z := (q - e + 52).toNat)
      apply pw_c (z := (-k).toNat)
      rw [hk2] at l1 ⊢
      calc B * 2 ^ (q - e).toNat * 2 ^ 52 * 2 ^ (q - e + 52).toNat * 2 ^ (-(q - e + 52)).toNat
          = (B * 2 ^ (q - e + 52).toNat) * (2 ^ (q - e).toNat * 2 ^ (52 + (-(q - e + 52)).toNat)) := by rw [Nat.pow_add 2 52]; simp only [Nat.mul_assoc, Nat.mul_comm, Nat.mul_left_comm]
        _ ≤ (A * 2 ^ (-(q - e + 52)).toNat) * (2 ^ (q - e).toNat * 2 ^ (52 + (-(q - e + 52)).toNat)) := Nat.mul_le_mul_right _ l1
        _ = (A * 2 ^ (-(q - e + 52)).toNat) * (2 ^ (e - q).toNat * 2 ^ (q - e + 52).toNat) := by rw [pe (q - e).toNat (52 + (-(q - e + 52)).toNat) (e - q).toNat (q - e + 52).toNat (by omega)]
        _ = A * 2 ^ (e - q).toNat * 2 ^ (q - e + 52).toNat * 2 ^ (-(q - e + 52)).toNat := by simp only [Nat.mul_assoc, Nat.mul_comm, Nat.mul_left_comm]
    have small : A * 2 ^ (e - q).toNat ≤ 9007199254740992 * (B * 2 ^ (q - e).toNat) := by
      have hk2 : k + 1 ≤ q - e + 53 := by omega
      apply pw_c (z := (k + 1).toNat)
      apply pw_c (z := (-(k + 1)).toNat)
      calc A * 2 ^ (e - q).toNat * 2 ^ (k + 1).toNat * 2 ^ (-(k + 1)).toNat
          = (A * 2 ^ (-(k + 1)).toNat) * (2 ^ (e - q).toNat * 2 ^ (k + 1).toNat) := by simp only [Nat.mul_assoc, Nat.mul_comm, Nat.mul_left_comm]
        _ ≤ (B * 2 ^ (k + 1).toNat) * (2 ^ (e - q).toNat * 2 ^ (k + 1).toNat) := Nat.mul_le_mul_right _ (Nat.le_of_lt l2)
        _ ≤ (B * 2 ^ (k + 1).toNat) * (2 ^ (53 + (-(k + 1)).toNat) * 2 ^ (q - e).toNat) := Nat.mul_le_mul_left _ (by rw [← Nat.pow_add, ← Nat.pow_add]; exact Nat.pow_le_pow_right (by decide) (by omega))
        _ = 9007199254740992 * (B * 2 ^ (q - e).toNat) * 2 ^ (k + 1).toNat * 2 ^ (-(k + 1)).toNat := by rw [Nat.pow_add 2 53, show (9007199254740992 : Nat) = 2 ^ 53 by decide]; simp only [Nat.mul_assoc, Nat.mul_comm, Nat.mul_left_comm]
    -- q is at most T
    have qT : q ≤ T := by
      by_cases hgt : q ≤ T
      · exact hgt
      · exfalso
        have b := big (by omega)
        unfold ub at hu
        have h9 : n * 2 ^ (T + 1074) * (B * 2 ^ (-1074 - e).toNat) < A * 2 ^ (e + 1074).toNat := by
          apply Nat.lt_of_mul_lt_mul_right (a := 2 ^ (q - e).toNat)
          apply Nat.lt_of_mul_lt_mul_right (a := 2 ^ (e - q).toNat)
          calc n * 2 ^ (T + 1074) * (B * 2 ^ (-1074 - e).toNat) * 2 ^ (q - e).toNat * 2 ^ (e - q).toNat
              < 9007199254740992 * 2 ^ (T + 1074) * (B * 2 ^ (-1074 - e).toNat) * 2 ^ (q - e).toNat * 2 ^ (e - q).toNat := by
                apply Nat.mul_lt_mul_of_pos_right _ (Nat.two_pow_pos _)
                apply Nat.mul_lt_mul_of_pos_right _ (Nat.two_pow_pos _)
                apply Nat.mul_lt_mul_of_pos_right _ (Nat.mul_pos hB (Nat.two_pow_pos _))
                exact Nat.mul_lt_mul_of_pos_right hn (Nat.two_pow_pos _)
            _ = (B * 2 ^ (q - e).toNat * 2 ^ 52) * (2 ^ (T + 1075) * 2 ^ ((-1074 - e).toNat + (e - q).toNat)) := by
                rw [Nat.pow_add 2 (-1074 - e).toNat, show T + 1075 = (T + 1074) + 1 by omega, Nat.pow_succ 2 (T + 1074), show (9007199254740992 : Nat) = 2 ^ 52 * 2 by decide]
                simp only [Nat.mul_assoc, Nat.mul_comm, Nat.mul_left_comm]
            _ ≤ (A * 2 ^ (e - q).toNat) * (2 ^ (T + 1075) * 2 ^ ((-1074 - e).toNat + (e - q).toNat)) := Nat.mul_le_mul_right _ b
            _ ≤ (A * 2 ^ (e - q).toNat) * (2 ^ (e + 1074).toNat * 2 ^ (q - e).toNat) := Nat.mul_le_mul_left _ (by rw [← Nat.pow_add, ← Nat.pow_add]; exact Nat.pow_le_pow_right (by decide) (by omega))
            _ = A * 2 ^ (e + 1074).toNat * 2 ^ (q - e).toNat * 2 ^ (e - q).toNat := by simp only [Nat.mul_assoc, Nat.mul_comm, Nat.mul_left_comm]
        omega
    have mU : m ≤ n * 2 ^ (T - q).toNat := by
      rw [← hm]
      apply near_le hD
      apply pw_c (z := ((-1074 - e).toNat + (q + 1074).toNat))
      unfold ub at hu
      calc A * 2 ^ (e - q).toNat * 2 ^ ((-1074 - e).toNat + (q + 1074).toNat)
          = (A * 2 ^ (e + 1074).toNat) * 2 ^ (q - e).toNat := by
            rw [Nat.mul_assoc, Nat.mul_assoc, ← Nat.pow_add, ← Nat.pow_add]
            congr 2; omega
        _ ≤ (n * 2 ^ (T + 1074) * (B * 2 ^ (-1074 - e).toNat)) * 2 ^ (q - e).toNat := Nat.mul_le_mul_right _ hu
        _ = n * 2 ^ (T - q).toNat * (B * 2 ^ (q - e).toNat) * 2 ^ ((-1074 - e).toNat + (q + 1074).toNat) := by
            rw [Nat.pow_add 2 (-1074 - e).toNat, show T + 1074 = (T - q).toNat + (q + 1074).toNat by omega, Nat.pow_add 2 (T - q).toNat]
            simp only [Nat.mul_assoc, Nat.mul_comm, Nat.mul_left_comm]
    have m53 : m ≤ 9007199254740992 := by
      rw [← hm]
      exact near_le hD small
    have mL : q ≠ -1074 → 4503599627370496 ≤ m := by
      intro hne
      rw [← hm]
      apply near_ge hD
      have := big hne
      rw [Nat.mul_comm] at this
      exact this
    have mb : m * 2 ^ (q + 1074).toNat ≤ n * 2 ^ (T + 1074) := by
      calc m * 2 ^ (q + 1074).toNat ≤ n * 2 ^ (T - q).toNat * 2 ^ (q + 1074).toNat := Nat.mul_le_mul_right _ mU
        _ = n * 2 ^ (T + 1074) := by rw [Nat.mul_assoc, ← Nat.pow_add]; congr 2; omega
    have ml : ∀ L, L ≤ 900 → lb A B e L → 2 ^ 1074 ≤ m * 2 ^ (q + 1074).toNat * 2 ^ L := by
      intro L hL hl
      unfold lb at hl
      by_cases hqL : -(L : Int) ≤ q
      · have h1 : 1 ≤ m := by have := mL (by omega); omega
        calc 2 ^ 1074 ≤ 2 ^ (q + 1074).toNat * 2 ^ L := by rw [← Nat.pow_add]; exact Nat.pow_le_pow_right (by decide) (by omega)
          _ ≤ m * 2 ^ (q + 1074).toNat * 2 ^ L := by rw [Nat.mul_assoc]; exact Nat.le_mul_of_pos_left _ h1
      · have hM : 2 ^ (-(L : Int) - q).toNat ≤ m := by
          rw [← hm]
          apply near_ge hD
          apply pw_c (z := ((-1074 - e).toNat + (q + 1074).toNat + L))
          calc 2 ^ (-(L : Int) - q).toNat * (B * 2 ^ (q - e).toNat) * 2 ^ ((-1074 - e).toNat + (q + 1074).toNat + L)
              = (B * 2 ^ (-1074 - e).toNat * 2 ^ 1074) * 2 ^ (q - e).toNat := by
                rw [Nat.pow_add 2 _ L, Nat.pow_add 2 (-1074 - e).toNat]
                have h2 : 2 ^ (-(L : Int) - q).toNat * (2 ^ (q + 1074).toNat * 2 ^ L) = 2 ^ 1074 := by
                  rw [← Nat.pow_add, ← Nat.pow_add]; congr 1; omega
                rw [← h2]
                simp only [Nat.mul_assoc, Nat.mul_comm, Nat.mul_left_comm]
            _ ≤ (A * 2 ^ (e + 1074).toNat * 2 ^ L) * 2 ^ (q - e).toNat := Nat.mul_le_mul_right _ hl
            _ = A * 2 ^ (e - q).toNat * 2 ^ ((-1074 - e).toNat + (q + 1074).toNat + L) := by
                rw [Nat.pow_add 2 _ L, Nat.pow_add 2 (-1074 - e).toNat]
                have h3 : 2 ^ (e + 1074).toNat * 2 ^ (q - e).toNat = 2 ^ (e - q).toNat * (2 ^ (-1074 - e).toNat * 2 ^ (q + 1074).toNat) := by
                  rw [← Nat.pow_add, ← Nat.pow_add, ← Nat.pow_add]; congr 1; omega
                calc A * 2 ^ (e + 1074).toNat * 2 ^ L * 2 ^ (q - e).toNat = A * (2 ^ (e + 1074).toNat * 2 ^ (q - e).toNat) * 2 ^ L := by simp only [Nat.mul_assoc, Nat.mul_comm, Nat.mul_left_comm]
                  _ = _ := by rw [h3]; simp only [Nat.mul_assoc, Nat.mul_comm, Nat.mul_left_comm]
        calc 2 ^ 1074 = 2 ^ (-(L : Int) - q).toNat * 2 ^ (q + 1074).toNat * 2 ^ L := by rw [← Nat.pow_add, ← Nat.pow_add]; congr 1; omega
          _ ≤ m * 2 ^ (q + 1074).toNat * 2 ^ L := Nat.mul_le_mul_right _ (Nat.mul_le_mul_right _ hM)
    unfold FP.Core.settle FP.Core.bound
    rw [fp_p, fp_qx]
    by_cases hlt : m < 9007199254740992
    · rw [if_pos hlt, if_pos (by omega)]
      exact ⟨m, q, rfl, ⟨hlt, q0, by omega, (Classical.em (q = -1074)).elim Or.inl (fun hh => Or.inr (mL hh))⟩, mb, ml⟩
    · have hm2 : m = 9007199254740992 := by omega
      rw [if_neg hlt, if_pos (by omega), fp_t]
      have e9 : (4503599627370496 : Nat) * 2 ^ (q + 1 + 1074).toNat = m * 2 ^ (q + 1074).toNat := by
        rw [hm2, show (q + 1 + 1074).toNat = (q + 1074).toNat + 1 by omega, Nat.pow_succ]
        omega
      exact ⟨4503599627370496, q + 1, rfl, ⟨by omega, by omega, by omega, Or.inr (by omega)⟩, by rw [e9]; exact mb, fun L hL hl => by rw [e9]; exact ml L hL hl⟩
def fbn (d : UInt64) (n T : Nat) : Prop := ∃ s c q, dm d = .fin s c q ∧ -1074 ≤ q ∧ c * 2 ^ (q + 1074).toNat ≤ n * 2 ^ (T + 1074)
def flb (d : UInt64) (L : Nat) : Prop := ∃ s c q, dm d = .fin s c q ∧ -1074 ≤ q ∧ 2 ^ 1074 ≤ c * 2 ^ (q + 1074).toNat * 2 ^ L
theorem fbn_up {d : UInt64} {n T m U : Nat} (h : fbn d n T) (hnm : n * 2 ^ (T + 1074) ≤ m * 2 ^ (U + 1074)) : fbn d m U := by
  obtain ⟨s, c, q, h1, h2, h3⟩ := h
  exact ⟨s, c, q, h1, h2, Nat.le_trans h3 hnm⟩
theorem fbn_T {d : UInt64} {n T U : Nat} (h : fbn d n T) (hTU : T ≤ U) : fbn d n U := fbn_up h (Nat.mul_le_mul_left _ (Nat.pow_le_pow_right (by decide) (by omega)))
theorem fbn_n {d : UInt64} {n m T : Nat} (h : fbn d n T) (hnm : n ≤ m) : fbn d m T := fbn_up h (Nat.mul_le_mul_right _ hnm)
theorem fbn_2 {d : UInt64} {T : Nat} (h : fbn d 2 T) : fbn d 1 (T + 1) := by
  refine fbn_up h ?_
  have h1 : 2 ^ (T + 1 + 1074) = 2 ^ (T + 1074) * 2 := by
    rw [show T + 1 + 1074 = (T + 1074) + 1 by omega]
    exact Nat.pow_succ ..
  rw [h1, Nat.one_mul, Nat.mul_comm]
  exact Nat.le_refl _
theorem rr_f {s : Bool} {A B n T : Nat} {e : Int} (hB : 0 < B) (hn : n < 9007199254740992) (hT : T ≤ 900) (hu : ub A B e (n * 2 ^ (T + 1074))) :
    fbn (UInt64.ofNat (FP.Core.encode FP.Core.b64 (FP.Core.roundRatio FP.Core.b64 s A B e))) n T ∧ vf_n64 (UInt64.ofNat (FP.Core.encode FP.Core.b64 (FP.Core.roundRatio FP.Core.b64 s A B e))) ∧ ∀ L, L ≤ 900 → lb A B e L → flb (UInt64.ofNat (FP.Core.encode FP.Core.b64 (FP.Core.roundRatio FP.Core.b64 s A B e))) L := by
  obtain ⟨c, q, h1, h2, h3, h4⟩ := rr_ok s hB hn hT hu
  rw [h1]
  obtain ⟨h5, h6⟩ := enc_dm h2
  exact ⟨⟨s, c, q, h5, h2.2.1, h3⟩, h6, fun L hL hl => ⟨s, c, q, h5, h2.2.1, h4 L hL hl⟩⟩
theorem fp_div {x y : UInt64} {n T L : Nat} (hx : fbn x n T) (hy : flb y L) (hn : n < 9007199254740992) (hT : T + L ≤ 900) : fbn (FP.ddiv x y) n (T + L) ∧ vf_n64 (FP.ddiv x y) ∧ ∀ K U, K + U ≤ 900 → flb x K → fbn y 1 U → flb (FP.ddiv x y) (K + U) := by
  obtain ⟨s, c, q, h1, h2, h3⟩ := hx
  obtain ⟨t, d, r, g1, g2, g3⟩ := hy
  have hd : 0 < d := by
    rcases Nat.eq_zero_or_pos d with h | h
    · subst h
      have : 0 < 2 ^ 1074 := Nat.two_pow_pos _
      rw [Nat.zero_mul, Nat.zero_mul] at g3
      omega
    · exact h
  have e1 : FP.ddiv x y = UInt64.ofNat (FP.Core.encode FP.Core.b64 (FP.Core.roundRatio FP.Core.b64 (s != t) c d (q - r))) := by
    show UInt64.ofNat (FP.Core.encode FP.Core.b64 (FP.Core.quotient FP.Core.b64 (dm x) (dm y))) = _
    rw [h1, g1]
    unfold FP.Core.quotient
    dsimp only
    rw [if_neg (by omega)]
  have ee : 2 ^ (q - r + 1074).toNat * 2 ^ (r + 1074).toNat = 2 ^ (q + 1074).toNat * 2 ^ 1074 * 2 ^ (-1074 - (q - r)).toNat := by
    rw [← Nat.pow_add, ← Nat.pow_add, ← Nat.pow_add]; congr 1; omega
  have hu : ub c d (q - r) (n * 2 ^ (T + L + 1074)) := by
    unfold ub
    apply pw_c (z := (r + 1074).toNat)
    calc c * 2 ^ (q - r + 1074).toNat * 2 ^ (r + 1074).toNat = (c * 2 ^ (q + 1074).toNat) * (2 ^ 1074) * 2 ^ (-1074 - (q - r)).toNat := by
          rw [Nat.mul_assoc, ee]; simp only [Nat.mul_assoc, Nat.mul_comm, Nat.mul_left_comm]
      _ ≤ (n * 2 ^ (T + 1074)) * (d * 2 ^ (r + 1074).toNat * 2 ^ L) * 2 ^ (-1074 - (q - r)).toNat := Nat.mul_le_mul_right _ (Nat.mul_le_mul h3 g3)
      _ = n * 2 ^ (T + L + 1074) * (d * 2 ^ (-1074 - (q - r)).toNat) * 2 ^ (r + 1074).toNat := by
          rw [show T + L + 1074 = (T + 1074) + L by omega, Nat.pow_add 2 (T + 1074) L]
          simp only [Nat.mul_assoc, Nat.mul_comm, Nat.mul_left_comm]
  rw [e1]
  obtain ⟨r1, r2, r3⟩ := rr_f (s := s != t) hd hn hT hu
  refine ⟨r1, r2, fun K U hKU hk hu2 => r3 _ hKU ?_⟩
  obtain ⟨s', c', q', k1, k2, k3⟩ := hk
  obtain ⟨t', d', r', u1, u2, u3⟩ := hu2
  rw [h1] at k1; cases k1
  rw [g1] at u1; cases u1
  unfold lb
  apply pw_c (z := (r + 1074).toNat)
  rw [Nat.one_mul] at u3
  calc d * 2 ^ (-1074 - (q - r)).toNat * 2 ^ 1074 * 2 ^ (r + 1074).toNat = (d * 2 ^ (r + 1074).toNat) * (2 ^ 1074 * 2 ^ (-1074 - (q - r)).toNat) := by simp only [Nat.mul_assoc, Nat.mul_comm, Nat.mul_left_comm]
    _ ≤ 2 ^ (U + 1074) * ((c * 2 ^ (q + 1074).toNat * 2 ^ K) * 2 ^ (-1074 - (q - r)).toNat) := Nat.mul_le_mul u3 (Nat.mul_le_mul_right _ k3)
    _ = c * (2 ^ (q - r + 1074).toNat * 2 ^ (r + 1074).toNat) * (2 ^ K * 2 ^ U) := by
        rw [ee, Nat.pow_add 2 U 1074]; simp only [Nat.mul_assoc, Nat.mul_comm, Nat.mul_left_comm]
    _ = c * 2 ^ (q - r + 1074).toNat * 2 ^ (K + U) * 2 ^ (r + 1074).toNat := by
        rw [Nat.pow_add 2 K U]; simp only [Nat.mul_assoc, Nat.mul_comm, Nat.mul_left_comm]
theorem fp_mul {x y : UInt64} {T U : Nat} (hx : fbn x 1 T) (hy : fbn y 1 U) (hT : T + U ≤ 900) : fbn (FP.dmul x y) 1 (T + U) ∧ vf_n64 (FP.dmul x y) := by
  obtain ⟨s, c, q, h1, h2, h3⟩ := hx
  obtain ⟨t, d, r, g1, g2, g3⟩ := hy
  have e1 : FP.dmul x y = UInt64.ofNat (FP.Core.encode FP.Core.b64 (FP.Core.roundRatio FP.Core.b64 (s != t) (c * d) 1 (q + r))) := by
    show UInt64.ofNat (FP.Core.encode FP.Core.b64 (FP.Core.round FP.Core.b64 (FP.Core.exactProduct (dm x) (dm y)))) = _
    rw [h1, g1]
    rfl
  have hu : ub (c * d) 1 (q + r) (1 * 2 ^ (T + U + 1074)) := by
    unfold ub
    apply pw_c (z := 1074)
    have ee : 2 ^ (q + r + 1074).toNat * 2 ^ 1074 = 2 ^ (q + 1074).toNat * 2 ^ (r + 1074).toNat * 2 ^ (-1074 - (q + r)).toNat := by
      rw [← Nat.pow_add, ← Nat.pow_add, ← Nat.pow_add]; congr 1; omega
    calc c * d * 2 ^ (q + r + 1074).toNat * 2 ^ 1074 = (c * 2 ^ (q + 1074).toNat) * (d * 2 ^ (r + 1074).toNat) * 2 ^ (-1074 - (q + r)).toNat := by
          rw [Nat.mul_assoc (c * d), ee]; simp only [Nat.mul_assoc, Nat.mul_comm, Nat.mul_left_comm]
      _ ≤ (1 * 2 ^ (T + 1074)) * (1 * 2 ^ (U + 1074)) * 2 ^ (-1074 - (q + r)).toNat := Nat.mul_le_mul_right _ (Nat.mul_le_mul h3 g3)
      _ = 1 * 2 ^ (T + U + 1074) * (1 * 2 ^ (-1074 - (q + r)).toNat) * 2 ^ 1074 := by
          rw [Nat.pow_add 2 T 1074, Nat.pow_add 2 U 1074, show T + U + 1074 = T + (U + 1074) by omega, Nat.pow_add 2 T (U + 1074), Nat.pow_add 2 U 1074]
          simp only [Nat.mul_assoc, Nat.mul_comm, Nat.mul_left_comm, Nat.one_mul, Nat.mul_one]
  rw [e1]
  obtain ⟨r1, r2, r3⟩ := rr_f (s := s != t) (by decide : 0 < 1) (by decide) hT hu
  exact ⟨r1, r2⟩
theorem sg_abs (s : Bool) (c : Nat) : (FP.Core.signed s c).natAbs = c := by unfold FP.Core.signed; cases s <;> simp
theorem fp_sum {s t : Bool} {c d n m T : Nat} {q r : Int} (h2 : -1074 ≤ q) (h3 : c * 2 ^ (q + 1074).toNat ≤ n * 2 ^ (T + 1074)) (g2 : -1074 ≤ r) (g3 : d * 2 ^ (r + 1074).toNat ≤ m * 2 ^ (T + 1074)) : ub (FP.Core.sumUnits s c q t d r (min q r)).natAbs 1 (min q r) ((n + m) * 2 ^ (T + 1074)) := by
  unfold ub FP.Core.sumUnits FP.Core.inUnits
  have h4 : (FP.Core.signed s (c * 2 ^ (q - min q r).toNat) + FP.Core.signed t (d * 2 ^ (r - min q r).toNat)).natAbs ≤ c * 2 ^ (q - min q r).toNat + d * 2 ^ (r - min q r).toNat := by
    have := Int.natAbs_add_le (FP.Core.signed s (c * 2 ^ (q - min q r).toNat)) (FP.Core.signed t (d * 2 ^ (r - min q r).toNat))
    rw [sg_abs, sg_abs] at this
    exact this
  have h5 : (-1074 - min q r).toNat = 0 := by omega
  rw [h5]
  calc _ ≤ (c * 2 ^ (q - min q r).toNat + d * 2 ^ (r - min q r).toNat) * 2 ^ (min q r + 1074).toNat := Nat.mul_le_mul_right _ h4
    _ = c * 2 ^ (q + 1074).toNat + d * 2 ^ (r + 1074).toNat := by
        rw [Nat.add_mul, Nat.mul_assoc, Nat.mul_assoc, ← Nat.pow_add, ← Nat.pow_add]
        congr 3 <;> omega
    _ ≤ n * 2 ^ (T + 1074) + m * 2 ^ (T + 1074) := Nat.add_le_add h3 g3
    _ = (n + m) * 2 ^ (T + 1074) * (1 * 2 ^ 0) := by rw [Nat.add_mul]; omega
theorem fp_add {x y : UInt64} {n m T : Nat} (hx : fbn x n T) (hy : fbn y m T) (hn : n + m < 9007199254740992) (hT : T ≤ 900) : fbn (FP.dadd x y) (n + m) T ∧ vf_n64 (FP.dadd x y) := by
  obtain ⟨s, c, q, h1, h2, h3⟩ := hx
  obtain ⟨t, d, r, g1, g2, g3⟩ := hy
  have e1 : FP.dadd x y = UInt64.ofNat (FP.Core.encode FP.Core.b64 (FP.Core.roundRatio FP.Core.b64 (FP.Core.sumSign s t (FP.Core.sumUnits s c q t d r (min q r))) (FP.Core.sumUnits s c q t d r (min q r)).natAbs 1 (min q r))) := by
    show UInt64.ofNat (FP.Core.encode FP.Core.b64 (FP.Core.round FP.Core.b64 (FP.Core.exactSum (dm x) (dm y)))) = _
    rw [h1, g1]
    rfl
  rw [e1]
  obtain ⟨r1, r2, r3⟩ := rr_f (by decide : 0 < 1) hn hT (fp_sum (s := s) (t := t) h2 h3 g2 g3)
  exact ⟨r1, r2⟩
theorem fp_sub {x y : UInt64} {n m T : Nat} (hx : fbn x n T) (hy : fbn y m T) (hn : n + m < 9007199254740992) (hT : T ≤ 900) : fbn (FP.dsub x y) (n + m) T ∧ vf_n64 (FP.dsub x y) := by
  obtain ⟨s, c, q, h1, h2, h3⟩ := hx
  obtain ⟨t, d, r, g1, g2, g3⟩ := hy
  have e1 : FP.dsub x y = UInt64.ofNat (FP.Core.encode FP.Core.b64 (FP.Core.roundRatio FP.Core.b64 (FP.Core.sumSign s (!t) (FP.Core.sumUnits s c q (!t) d r (min q r))) (FP.Core.sumUnits s c q (!t) d r (min q r)).natAbs 1 (min q r))) := by
    show UInt64.ofNat (FP.Core.encode FP.Core.b64 (FP.Core.round FP.Core.b64 (FP.Core.exactSum (dm x) (FP.Core.negate (dm y))))) = _
    rw [h1, g1]
    rfl
  rw [e1]
  obtain ⟨r1, r2, r3⟩ := rr_f (by decide : 0 < 1) hn hT (fp_sum (s := s) (t := !t) h2 h3 g2 g3)
  exact ⟨r1, r2⟩
theorem fp_l2d (x : Int) (hx : i64 x) : fbn (FP.l2d (Int64.ofInt x)) 1 63 ∧ (1 ≤ x → flb (FP.l2d (Int64.ofInt x)) 0) := by
  have e1 : FP.l2d (Int64.ofInt x) = UInt64.ofNat (FP.Core.encode FP.Core.b64 (FP.Core.roundRatio FP.Core.b64 (decide (x < 0)) x.natAbs 1 0)) := by
    show UInt64.ofNat (FP.Core.encode FP.Core.b64 (FP.Core.round FP.Core.b64 (FP.Core.ofInt (Int64.ofInt x).toInt))) = _
    rw [i64_tn hx]
    rfl
  have hu : ub x.natAbs 1 0 (1 * 2 ^ (63 + 1074)) := by
    unfold ub
    unfold i64 at hx
    have h1 : x.natAbs ≤ 2 ^ 63 := by omega
    have h2 : ((0 : Int) + 1074).toNat = 1074 := by decide
    have h3 : (-1074 - (0 : Int)).toNat = 0 := by decide
    rw [h2, h3, Nat.pow_add]
    have := Nat.mul_le_mul_right (2 ^ 1074) h1
    omega
  rw [e1]
  obtain ⟨r1, r2, r3⟩ := rr_f (s := decide (x < 0)) (by decide : 0 < 1) (by decide) (by decide) hu
  refine ⟨r1, fun h => r3 0 (by decide) ?_⟩
  unfold lb
  have h2 : ((0 : Int) + 1074).toNat = 1074 := by decide
  have h3 : (-1074 - (0 : Int)).toNat = 0 := by decide
  rw [h2, h3]
  have h4 : 1 ≤ x.natAbs := by omega
  have := Nat.mul_le_mul_right (2 ^ 1074) h4
  omega
theorem fb_0 : fbn 0 1 0 := ⟨false, 0, -1074, by decide +kernel, by decide, by decide +kernel⟩
theorem fb_1 : fbn 4607182418800017408 1 0 := ⟨false, 4503599627370496, -52, by decide +kernel, by decide, by decide +kernel⟩
theorem fb_q : fbn 4598175219545276416 1 0 := ⟨false, 4503599627370496, -54, by decide +kernel, by decide, by decide +kernel⟩
theorem fb_2 : fbn 4611686018427387904 1 1 := ⟨false, 4503599627370496, -51, by decide +kernel, by decide, by decide +kernel⟩
theorem fb_4 : fbn 4616189618054758400 1 2 := ⟨false, 4503599627370496, -50, by decide +kernel, by decide, by decide +kernel⟩

/-! ===== the JDK's own methods ===== -/
def m_JPreconditions_checkIndex : mr_T := (⟨"jdk/internal/util/Preconditions", "checkIndex", "(IILjava/util/function/BiFunction;)I"⟩, prog_22_method_11_code, 3, some .int)
theorem d_JPreconditions_checkIndex_0 : decode prog_22_method_11_code 0 = .ok (.iload_n 0, 1) := by decide +kernel
theorem d_JPreconditions_checkIndex_1 : decode prog_22_method_11_code 1 = .ok (.ifCond .lt 8, 3) := by decide +kernel
theorem d_JPreconditions_checkIndex_4 : decode prog_22_method_11_code 4 = .ok (.iload_n 0, 1) := by decide +kernel
theorem d_JPreconditions_checkIndex_5 : decode prog_22_method_11_code 5 = .ok (.iload_n 1, 1) := by decide +kernel
theorem d_JPreconditions_checkIndex_6 : decode prog_22_method_11_code 6 = .ok (.if_icmp .lt 10, 3) := by decide +kernel
theorem d_JPreconditions_checkIndex_16 : decode prog_22_method_11_code 16 = .ok (.iload_n 0, 1) := by decide +kernel
theorem d_JPreconditions_checkIndex_17 : decode prog_22_method_11_code 17 = .ok (.ireturn, 1) := by decide +kernel
def m_JString_checkIndex : mr_T := (⟨"java/lang/String", "checkIndex", "(II)V"⟩, prog_19_method_155_code, 2, none)
theorem d_JString_checkIndex_0 : decode prog_19_method_155_code 0 = .ok (.iload_n 0, 1) := by decide +kernel
theorem d_JString_checkIndex_1 : decode prog_19_method_155_code 1 = .ok (.iload_n 1, 1) := by decide +kernel
theorem d_JString_checkIndex_2 : decode prog_19_method_155_code 2 = .ok (.getstatic 1053, 3) := by decide +kernel
theorem gs_JString_1053 : Cond.fieldLink "java/lang/String" 1053 "jdk/internal/util/Preconditions" "SIOOBE_FORMATTER" "Ljava/util/function/BiFunction;" ∈ gw := gwi_718
theorem d_JString_checkIndex_5 : decode prog_19_method_155_code 5 = .ok (.invokestatic 1059, 3) := by decide +kernel
theorem k_JPreconditions_checkIndex : mt_OK m_JPreconditions_checkIndex 3 0 := ⟨gwi_722, gwi_150, ⟨by decide +kernel, by decide +kernel, by decide +kernel⟩, fun _ => gwi_721, fun h => absurd h (by decide), fun h => absurd h (by decide)⟩
theorem l_JString_1059 : ml_OK "java/lang/String" 1059 ⟨"jdk/internal/util/Preconditions", "checkIndex", "(IILjava/util/function/BiFunction;)I"⟩ := Or.inl gwi_720
theorem d_JString_checkIndex_8 : decode prog_19_method_155_code 8 = .ok (.pop, 1) := by decide +kernel
theorem d_JString_checkIndex_9 : decode prog_19_method_155_code 9 = .ok (.return_, 1) := by decide +kernel
def m_JString_isLatin1 : mr_T := (⟨"java/lang/String", "isLatin1", "()Z"⟩, prog_19_method_154_code, 1, some .boolean)
theorem d_JString_isLatin1_0 : decode prog_19_method_154_code 0 = .ok (.getstatic 38, 3) := by decide +kernel
theorem gs_JString_38 : Cond.fieldLink "java/lang/String" 38 "java/lang/String" "COMPACT_STRINGS" "Z" ∈ gw := gwi_702
theorem d_JString_isLatin1_3 : decode prog_19_method_154_code 3 = .ok (.ifCond .eq 14, 3) := by decide +kernel
theorem d_JString_isLatin1_6 : decode prog_19_method_154_code 6 = .ok (.aload_n 0, 1) := by decide +kernel
theorem d_JString_isLatin1_7 : decode prog_19_method_154_code 7 = .ok (.getfield 15, 3) := by decide +kernel
theorem gs_JString_15 : Cond.fieldLink "java/lang/String" 15 "java/lang/String" "coder" "B" ∈ gw := gwi_2222
theorem d_JString_isLatin1_10 : decode prog_19_method_154_code 10 = .ok (.ifCond .ne 7, 3) := by decide +kernel
theorem d_JString_isLatin1_13 : decode prog_19_method_154_code 13 = .ok (.iconst 1, 1) := by decide +kernel
theorem d_JString_isLatin1_14 : decode prog_19_method_154_code 14 = .ok (.goto 4, 3) := by decide +kernel
theorem d_JString_isLatin1_18 : decode prog_19_method_154_code 18 = .ok (.ireturn, 1) := by decide +kernel
def m_JString_coder : mr_T := (⟨"java/lang/String", "coder", "()B"⟩, prog_19_method_152_code, 1, some .byte)
theorem d_JString_coder_0 : decode prog_19_method_152_code 0 = .ok (.getstatic 38, 3) := by decide +kernel
theorem d_JString_coder_3 : decode prog_19_method_152_code 3 = .ok (.ifCond .eq 10, 3) := by decide +kernel
theorem d_JString_coder_6 : decode prog_19_method_152_code 6 = .ok (.aload_n 0, 1) := by decide +kernel
theorem d_JString_coder_7 : decode prog_19_method_152_code 7 = .ok (.getfield 15, 3) := by decide +kernel
theorem d_JString_coder_10 : decode prog_19_method_152_code 10 = .ok (.goto 4, 3) := by decide +kernel
theorem d_JString_coder_14 : decode prog_19_method_152_code 14 = .ok (.ireturn, 1) := by decide +kernel
def m_JString_length : mr_T := (⟨"java/lang/String", "length", "()I"⟩, prog_19_method_54_code, 1, some .int)
theorem d_JString_length_0 : decode prog_19_method_54_code 0 = .ok (.aload_n 0, 1) := by decide +kernel
theorem d_JString_length_1 : decode prog_19_method_54_code 1 = .ok (.getfield 9, 3) := by decide +kernel
theorem gs_JString_9 : Cond.fieldLink "java/lang/String" 9 "java/lang/String" "value" "[B" ∈ gw := gwi_2221
theorem d_JString_length_4 : decode prog_19_method_54_code 4 = .ok (.arraylength, 1) := by decide +kernel
theorem d_JString_length_5 : decode prog_19_method_54_code 5 = .ok (.aload_n 0, 1) := by decide +kernel
theorem d_JString_length_6 : decode prog_19_method_54_code 6 = .ok (.invokevirtual 335, 3) := by decide +kernel
theorem k_JString_coder : mt_OK m_JString_coder 0 1 := ⟨gwi_701, gwi_148, ⟨by decide +kernel, by decide +kernel, by decide +kernel⟩, fun h => absurd h (by decide), fun _ => ⟨gwi_699, gwi_700⟩, fun h => absurd h (by decide)⟩
theorem ll_JString_335 : Cond.methodLink "java/lang/String" 335 ⟨"java/lang/String", "coder", "()B"⟩ ∈ gw := gwi_698
theorem d_JString_length_9 : decode prog_19_method_54_code 9 = .ok (.ishr, 1) := by decide +kernel
theorem d_JString_length_10 : decode prog_19_method_54_code 10 = .ok (.ireturn, 1) := by decide +kernel
def m_JStringLatin1_charAt : mr_T := (⟨"java/lang/StringLatin1", "charAt", "([BI)C"⟩, prog_20_method_2_code, 2, some .char)
theorem d_JStringLatin1_charAt_0 : decode prog_20_method_2_code 0 = .ok (.iload_n 1, 1) := by decide +kernel
theorem d_JStringLatin1_charAt_1 : decode prog_20_method_2_code 1 = .ok (.aload_n 0, 1) := by decide +kernel
theorem d_JStringLatin1_charAt_2 : decode prog_20_method_2_code 2 = .ok (.arraylength, 1) := by decide +kernel
theorem d_JStringLatin1_charAt_3 : decode prog_20_method_2_code 3 = .ok (.invokestatic 9, 3) := by decide +kernel
theorem k_JString_checkIndex : mt_OK m_JString_checkIndex 2 0 := ⟨gwi_717, gwi_148, ⟨by decide +kernel, by decide +kernel, by decide +kernel⟩, fun _ => gwi_716, fun h => absurd h (by decide), fun h => absurd h (by decide)⟩
theorem l_JStringLatin1_9 : ml_OK "java/lang/StringLatin1" 9 ⟨"java/lang/String", "checkIndex", "(II)V"⟩ := Or.inl gwi_715
theorem d_JStringLatin1_charAt_6 : decode prog_20_method_2_code 6 = .ok (.aload_n 0, 1) := by decide +kernel
theorem d_JStringLatin1_charAt_7 : decode prog_20_method_2_code 7 = .ok (.iload_n 1, 1) := by decide +kernel
theorem d_JStringLatin1_charAt_8 : decode prog_20_method_2_code 8 = .ok (.baload, 1) := by decide +kernel
theorem d_JStringLatin1_charAt_9 : decode prog_20_method_2_code 9 = .ok (.sipush 255, 3) := by decide +kernel
theorem d_JStringLatin1_charAt_12 : decode prog_20_method_2_code 12 = .ok (.iand, 1) := by decide +kernel
theorem d_JStringLatin1_charAt_13 : decode prog_20_method_2_code 13 = .ok (.i2c, 1) := by decide +kernel
theorem d_JStringLatin1_charAt_14 : decode prog_20_method_2_code 14 = .ok (.ireturn, 1) := by decide +kernel
def m_JString_charAt : mr_T := (⟨"java/lang/String", "charAt", "(I)C"⟩, prog_19_method_56_code, 2, some .char)
theorem d_JString_charAt_0 : decode prog_19_method_56_code 0 = .ok (.aload_n 0, 1) := by decide +kernel
theorem d_JString_charAt_1 : decode prog_19_method_56_code 1 = .ok (.invokevirtual 492, 3) := by decide +kernel
theorem k_JString_isLatin1 : mt_OK m_JString_isLatin1 0 1 := ⟨gwi_711, gwi_148, ⟨by decide +kernel, by decide +kernel, by decide +kernel⟩, fun h => absurd h (by decide), fun _ => ⟨gwi_709, gwi_710⟩, fun h => absurd h (by decide)⟩
theorem ll_JString_492 : Cond.methodLink "java/lang/String" 492 ⟨"java/lang/String", "isLatin1", "()Z"⟩ ∈ gw := gwi_708
theorem d_JString_charAt_4 : decode prog_19_method_56_code 4 = .ok (.ifCond .eq 12, 3) := by decide +kernel
theorem d_JString_charAt_7 : decode prog_19_method_56_code 7 = .ok (.aload_n 0, 1) := by decide +kernel
theorem d_JString_charAt_8 : decode prog_19_method_56_code 8 = .ok (.getfield 9, 3) := by decide +kernel
theorem d_JString_charAt_11 : decode prog_19_method_56_code 11 = .ok (.iload_n 1, 1) := by decide +kernel
theorem d_JString_charAt_12 : decode prog_19_method_56_code 12 = .ok (.invokestatic 495, 3) := by decide +kernel
theorem k_JStringLatin1_charAt : mt_OK m_JStringLatin1_charAt 2 0 := ⟨gwi_714, gwi_149, ⟨by decide +kernel, by decide +kernel, by decide +kernel⟩, fun _ => gwi_713, fun h => absurd h (by decide), fun h => absurd h (by decide)⟩
theorem l_JString_495 : ml_OK "java/lang/String" 495 ⟨"java/lang/StringLatin1", "charAt", "([BI)C"⟩ := Or.inl gwi_712
theorem d_JString_charAt_15 : decode prog_19_method_56_code 15 = .ok (.ireturn, 1) := by decide +kernel
def m_JStringLatin1_canEncode : mr_T := (⟨"java/lang/StringLatin1", "canEncode", "(I)Z"⟩, prog_20_method_4_code, 1, some .boolean)
theorem d_JStringLatin1_canEncode_0 : decode prog_20_method_4_code 0 = .ok (.iload_n 0, 1) := by decide +kernel
theorem d_JStringLatin1_canEncode_1 : decode prog_20_method_4_code 1 = .ok (.ifCond .lt 14, 3) := by decide +kernel
theorem d_JStringLatin1_canEncode_4 : decode prog_20_method_4_code 4 = .ok (.iload_n 0, 1) := by decide +kernel
theorem d_JStringLatin1_canEncode_5 : decode prog_20_method_4_code 5 = .ok (.sipush 255, 3) := by decide +kernel
theorem d_JStringLatin1_canEncode_8 : decode prog_20_method_4_code 8 = .ok (.if_icmp .gt 7, 3) := by decide +kernel
theorem d_JStringLatin1_canEncode_11 : decode prog_20_method_4_code 11 = .ok (.iconst 1, 1) := by decide +kernel
theorem d_JStringLatin1_canEncode_12 : decode prog_20_method_4_code 12 = .ok (.goto 4, 3) := by decide +kernel
theorem d_JStringLatin1_canEncode_16 : decode prog_20_method_4_code 16 = .ok (.ireturn, 1) := by decide +kernel
def m_JStringLatin1_indexOfChar : mr_T := (⟨"java/lang/StringLatin1", "indexOfChar", "([BIII)I"⟩, prog_20_method_23_code, 6, some .int)
theorem d_JStringLatin1_indexOfChar_0 : decode prog_20_method_23_code 0 = .ok (.iload_n 1, 1) := by decide +kernel
theorem d_JStringLatin1_indexOfChar_1 : decode prog_20_method_23_code 1 = .ok (.i2b, 1) := by decide +kernel
theorem d_JStringLatin1_indexOfChar_2 : decode prog_20_method_23_code 2 = .ok (.istore 4, 2) := by decide +kernel
theorem d_JStringLatin1_indexOfChar_4 : decode prog_20_method_23_code 4 = .ok (.iload_n 2, 1) := by decide +kernel
theorem d_JStringLatin1_indexOfChar_5 : decode prog_20_method_23_code 5 = .ok (.istore 5, 2) := by decide +kernel
theorem d_JStringLatin1_indexOfChar_7 : decode prog_20_method_23_code 7 = .ok (.iload 5, 2) := by decide +kernel
theorem d_JStringLatin1_indexOfChar_9 : decode prog_20_method_23_code 9 = .ok (.iload_n 3, 1) := by decide +kernel
theorem d_JStringLatin1_indexOfChar_10 : decode prog_20_method_23_code 10 = .ok (.if_icmp .ge 21, 3) := by decide +kernel
theorem d_JStringLatin1_indexOfChar_13 : decode prog_20_method_23_code 13 = .ok (.aload_n 0, 1) := by decide +kernel
theorem d_JStringLatin1_indexOfChar_14 : decode prog_20_method_23_code 14 = .ok (.iload 5, 2) := by decide +kernel
theorem d_JStringLatin1_indexOfChar_16 : decode prog_20_method_23_code 16 = .ok (.baload, 1) := by decide +kernel
theorem d_JStringLatin1_indexOfChar_17 : decode prog_20_method_23_code 17 = .ok (.iload 4, 2) := by decide +kernel
theorem d_JStringLatin1_indexOfChar_19 : decode prog_20_method_23_code 19 = .ok (.if_icmp .ne 6, 3) := by decide +kernel
theorem d_JStringLatin1_indexOfChar_25 : decode prog_20_method_23_code 25 = .ok (.iinc 5 1, 3) := by decide +kernel
theorem d_JStringLatin1_indexOfChar_28 : decode prog_20_method_23_code 28 = .ok (.goto (-21), 3) := by decide +kernel
theorem d_JStringLatin1_indexOfChar_22 : decode prog_20_method_23_code 22 = .ok (.iload 5, 2) := by decide +kernel
theorem d_JStringLatin1_indexOfChar_24 : decode prog_20_method_23_code 24 = .ok (.ireturn, 1) := by decide +kernel
theorem d_JStringLatin1_indexOfChar_31 : decode prog_20_method_23_code 31 = .ok (.iconst (-1), 1) := by decide +kernel
theorem d_JStringLatin1_indexOfChar_32 : decode prog_20_method_23_code 32 = .ok (.ireturn, 1) := by decide +kernel
def m_JStringLatin1_indexOf : mr_T := (⟨"java/lang/StringLatin1", "indexOf", "([BIII)I"⟩, prog_20_method_22_code, 4, some .int)
theorem d_JStringLatin1_indexOf_0 : decode prog_20_method_22_code 0 = .ok (.iload_n 1, 1) := by decide +kernel
theorem d_JStringLatin1_indexOf_1 : decode prog_20_method_22_code 1 = .ok (.invokestatic 88, 3) := by decide +kernel
theorem k_JStringLatin1_canEncode : mt_OK m_JStringLatin1_canEncode 1 0 := ⟨gwi_769, gwi_149, ⟨by decide +kernel, by decide +kernel, by decide +kernel⟩, fun _ => gwi_768, fun h => absurd h (by decide), fun h => absurd h (by decide)⟩
theorem l_JStringLatin1_88 : ml_OK "java/lang/StringLatin1" 88 ⟨"java/lang/StringLatin1", "canEncode", "(I)Z"⟩ := Or.inl gwi_767
theorem d_JStringLatin1_indexOf_4 : decode prog_20_method_22_code 4 = .ok (.ifCond .ne 5, 3) := by decide +kernel
theorem d_JStringLatin1_indexOf_9 : decode prog_20_method_22_code 9 = .ok (.iload_n 2, 1) := by decide +kernel
theorem d_JStringLatin1_indexOf_10 : decode prog_20_method_22_code 10 = .ok (.iconst 0, 1) := by decide +kernel
theorem d_JStringLatin1_indexOf_11 : decode prog_20_method_22_code 11 = .ok (.invokestatic 92, 3) := by decide +kernel
theorem ma_max : Cond.static Lib.Math.max.name ∈ gw ∧ Cond.initialized "java/lang/Math" ∈ gw ∧ Cond.code Lib.Math.max.name Lib.Math.max.code 2 (some .int) ∈ gw := ⟨gwi_771, gwi_147, gwi_772⟩
theorem lm_JStringLatin1_92 : Cond.methodLink "java/lang/StringLatin1" 92 Lib.Math.max.name ∈ gw := gwi_770
theorem d_JStringLatin1_indexOf_14 : decode prog_20_method_22_code 14 = .ok (.istore_n 2, 1) := by decide +kernel
theorem d_JStringLatin1_indexOf_15 : decode prog_20_method_22_code 15 = .ok (.iload_n 3, 1) := by decide +kernel
theorem d_JStringLatin1_indexOf_16 : decode prog_20_method_22_code 16 = .ok (.aload_n 0, 1) := by decide +kernel
theorem d_JStringLatin1_indexOf_17 : decode prog_20_method_22_code 17 = .ok (.arraylength, 1) := by decide +kernel
theorem d_JStringLatin1_indexOf_18 : decode prog_20_method_22_code 18 = .ok (.invokestatic 38, 3) := by decide +kernel
theorem ma_min : Cond.static Lib.Math.min.name ∈ gw ∧ Cond.initialized "java/lang/Math" ∈ gw ∧ Cond.code Lib.Math.min.name Lib.Math.min.code 2 (some .int) ∈ gw := ⟨gwi_657, gwi_147, gwi_658⟩
theorem lm_JStringLatin1_38 : Cond.methodLink "java/lang/StringLatin1" 38 Lib.Math.min.name ∈ gw := gwi_773
theorem d_JStringLatin1_indexOf_21 : decode prog_20_method_22_code 21 = .ok (.istore_n 3, 1) := by decide +kernel
theorem d_JStringLatin1_indexOf_22 : decode prog_20_method_22_code 22 = .ok (.iload_n 2, 1) := by decide +kernel
theorem d_JStringLatin1_indexOf_23 : decode prog_20_method_22_code 23 = .ok (.iload_n 3, 1) := by decide +kernel
theorem d_JStringLatin1_indexOf_24 : decode prog_20_method_22_code 24 = .ok (.if_icmp .lt 5, 3) := by decide +kernel
theorem d_JStringLatin1_indexOf_29 : decode prog_20_method_22_code 29 = .ok (.aload_n 0, 1) := by decide +kernel
theorem d_JStringLatin1_indexOf_30 : decode prog_20_method_22_code 30 = .ok (.iload_n 1, 1) := by decide +kernel
theorem d_JStringLatin1_indexOf_31 : decode prog_20_method_22_code 31 = .ok (.iload_n 2, 1) := by decide +kernel
theorem d_JStringLatin1_indexOf_32 : decode prog_20_method_22_code 32 = .ok (.iload_n 3, 1) := by decide +kernel
theorem d_JStringLatin1_indexOf_33 : decode prog_20_method_22_code 33 = .ok (.invokestatic 95, 3) := by decide +kernel
theorem k_JStringLatin1_indexOfChar : mt_OK m_JStringLatin1_indexOfChar 4 0 := ⟨gwi_776, gwi_149, ⟨by decide +kernel, by decide +kernel, by decide +kernel⟩, fun _ => gwi_775, fun h => absurd h (by decide), fun h => absurd h (by decide)⟩
theorem l_JStringLatin1_95 : ml_OK "java/lang/StringLatin1" 95 ⟨"java/lang/StringLatin1", "indexOfChar", "([BIII)I"⟩ := Or.inl gwi_774
theorem d_JStringLatin1_indexOf_36 : decode prog_20_method_22_code 36 = .ok (.ireturn, 1) := by decide +kernel
def m_JString_indexOf_III : mr_T := (⟨"java/lang/String", "indexOf", "(II)I"⟩, prog_19_method_80_code, 3, some .int)
theorem d_JString_indexOf_III_0 : decode prog_19_method_80_code 0 = .ok (.aload_n 0, 1) := by decide +kernel
theorem d_JString_indexOf_III_1 : decode prog_19_method_80_code 1 = .ok (.invokevirtual 492, 3) := by decide +kernel
theorem d_JString_indexOf_III_4 : decode prog_19_method_80_code 4 = .ok (.ifCond .eq 19, 3) := by decide +kernel
theorem d_JString_indexOf_III_7 : decode prog_19_method_80_code 7 = .ok (.aload_n 0, 1) := by decide +kernel
theorem d_JString_indexOf_III_8 : decode prog_19_method_80_code 8 = .ok (.getfield 9, 3) := by decide +kernel
theorem d_JString_indexOf_III_11 : decode prog_19_method_80_code 11 = .ok (.iload_n 1, 1) := by decide +kernel
theorem d_JString_indexOf_III_12 : decode prog_19_method_80_code 12 = .ok (.iload_n 2, 1) := by decide +kernel
theorem d_JString_indexOf_III_13 : decode prog_19_method_80_code 13 = .ok (.aload_n 0, 1) := by decide +kernel
theorem d_JString_indexOf_III_14 : decode prog_19_method_80_code 14 = .ok (.invokevirtual 505, 3) := by decide +kernel
theorem k_JString_length : mt_OK m_JString_length 0 1 := ⟨gwi_697, gwi_148, ⟨by decide +kernel, by decide +kernel, by decide +kernel⟩, fun h => absurd h (by decide), fun _ => ⟨gwi_695, gwi_696⟩, fun h => absurd h (by decide)⟩
theorem ll_JString_505 : Cond.methodLink "java/lang/String" 505 ⟨"java/lang/String", "length", "()I"⟩ ∈ gw := gwi_763
theorem d_JString_indexOf_III_17 : decode prog_19_method_80_code 17 = .ok (.invokestatic 637, 3) := by decide +kernel
theorem k_JStringLatin1_indexOf : mt_OK m_JStringLatin1_indexOf 4 0 := ⟨gwi_766, gwi_149, ⟨by decide +kernel, by decide +kernel, by decide +kernel⟩, fun _ => gwi_765, fun h => absurd h (by decide), fun h => absurd h (by decide)⟩
theorem l_JString_637 : ml_OK "java/lang/String" 637 ⟨"java/lang/StringLatin1", "indexOf", "([BIII)I"⟩ := Or.inl gwi_764
theorem d_JString_indexOf_III_20 : decode prog_19_method_80_code 20 = .ok (.goto 16, 3) := by decide +kernel
theorem d_JString_indexOf_III_36 : decode prog_19_method_80_code 36 = .ok (.ireturn, 1) := by decide +kernel
def m_JString_indexOf_II : mr_T := (⟨"java/lang/String", "indexOf", "(I)I"⟩, prog_19_method_79_code, 2, some .int)
theorem d_JString_indexOf_II_0 : decode prog_19_method_79_code 0 = .ok (.aload_n 0, 1) := by decide +kernel
theorem d_JString_indexOf_II_1 : decode prog_19_method_79_code 1 = .ok (.iload_n 1, 1) := by decide +kernel
theorem d_JString_indexOf_II_2 : decode prog_19_method_79_code 2 = .ok (.iconst 0, 1) := by decide +kernel
theorem d_JString_indexOf_II_3 : decode prog_19_method_79_code 3 = .ok (.invokevirtual 633, 3) := by decide +kernel
theorem k_JString_indexOf_III : mt_OK m_JString_indexOf_III 2 1 := ⟨gwi_762, gwi_148, ⟨by decide +kernel, by decide +kernel, by decide +kernel⟩, fun h => absurd h (by decide), fun _ => ⟨gwi_760, gwi_761⟩, fun h => absurd h (by decide)⟩
theorem ll_JString_633 : Cond.methodLink "java/lang/String" 633 ⟨"java/lang/String", "indexOf", "(II)I"⟩ ∈ gw := gwi_759
theorem d_JString_indexOf_II_6 : decode prog_19_method_79_code 6 = .ok (.ireturn, 1) := by decide +kernel
def m_JMath_floorMod : mr_T := (⟨"java/lang/Math", "floorMod", "(II)I"⟩, prog_18_method_50_code, 3, some .int)
theorem d_JMath_floorMod_0 : decode prog_18_method_50_code 0 = .ok (.iload_n 0, 1) := by decide +kernel
theorem d_JMath_floorMod_1 : decode prog_18_method_50_code 1 = .ok (.iload_n 1, 1) := by decide +kernel
theorem d_JMath_floorMod_2 : decode prog_18_method_50_code 2 = .ok (.irem, 1) := by decide +kernel
theorem d_JMath_floorMod_3 : decode prog_18_method_50_code 3 = .ok (.istore_n 2, 1) := by decide +kernel
theorem d_JMath_floorMod_4 : decode prog_18_method_50_code 4 = .ok (.iload_n 0, 1) := by decide +kernel
theorem d_JMath_floorMod_5 : decode prog_18_method_50_code 5 = .ok (.iload_n 1, 1) := by decide +kernel
theorem d_JMath_floorMod_6 : decode prog_18_method_50_code 6 = .ok (.ixor, 1) := by decide +kernel
theorem d_JMath_floorMod_7 : decode prog_18_method_50_code 7 = .ok (.ifCond .ge 11, 3) := by decide +kernel
theorem d_JMath_floorMod_18 : decode prog_18_method_50_code 18 = .ok (.iload_n 2, 1) := by decide +kernel
theorem d_JMath_floorMod_19 : decode prog_18_method_50_code 19 = .ok (.ireturn, 1) := by decide +kernel
theorem d_JMath_floorMod_10 : decode prog_18_method_50_code 10 = .ok (.iload_n 2, 1) := by decide +kernel
theorem d_JMath_floorMod_11 : decode prog_18_method_50_code 11 = .ok (.ifCond .eq 7, 3) := by decide +kernel
theorem d_JMath_floorMod_14 : decode prog_18_method_50_code 14 = .ok (.iload_n 2, 1) := by decide +kernel
theorem d_JMath_floorMod_15 : decode prog_18_method_50_code 15 = .ok (.iload_n 1, 1) := by decide +kernel
theorem d_JMath_floorMod_16 : decode prog_18_method_50_code 16 = .ok (.iadd, 1) := by decide +kernel
theorem d_JMath_floorMod_17 : decode prog_18_method_50_code 17 = .ok (.ireturn, 1) := by decide +kernel
def m_JMath_floorDiv : mr_T := (⟨"java/lang/Math", "floorDiv", "(II)I"⟩, prog_18_method_47_code, 3, some .int)
theorem d_JMath_floorDiv_0 : decode prog_18_method_47_code 0 = .ok (.iload_n 0, 1) := by decide +kernel
theorem d_JMath_floorDiv_1 : decode prog_18_method_47_code 1 = .ok (.iload_n 1, 1) := by decide +kernel
theorem d_JMath_floorDiv_2 : decode prog_18_method_47_code 2 = .ok (.idiv, 1) := by decide +kernel
theorem d_JMath_floorDiv_3 : decode prog_18_method_47_code 3 = .ok (.istore_n 2, 1) := by decide +kernel
theorem d_JMath_floorDiv_4 : decode prog_18_method_47_code 4 = .ok (.iload_n 0, 1) := by decide +kernel
theorem d_JMath_floorDiv_5 : decode prog_18_method_47_code 5 = .ok (.iload_n 1, 1) := by decide +kernel
theorem d_JMath_floorDiv_6 : decode prog_18_method_47_code 6 = .ok (.ixor, 1) := by decide +kernel
theorem d_JMath_floorDiv_7 : decode prog_18_method_47_code 7 = .ok (.ifCond .ge 14, 3) := by decide +kernel
theorem d_JMath_floorDiv_21 : decode prog_18_method_47_code 21 = .ok (.iload_n 2, 1) := by decide +kernel
theorem d_JMath_floorDiv_22 : decode prog_18_method_47_code 22 = .ok (.ireturn, 1) := by decide +kernel
theorem d_JMath_floorDiv_10 : decode prog_18_method_47_code 10 = .ok (.iload_n 2, 1) := by decide +kernel
theorem d_JMath_floorDiv_11 : decode prog_18_method_47_code 11 = .ok (.iload_n 1, 1) := by decide +kernel
theorem d_JMath_floorDiv_12 : decode prog_18_method_47_code 12 = .ok (.imul, 1) := by decide +kernel
theorem d_JMath_floorDiv_13 : decode prog_18_method_47_code 13 = .ok (.iload_n 0, 1) := by decide +kernel
theorem d_JMath_floorDiv_14 : decode prog_18_method_47_code 14 = .ok (.if_icmp .eq 7, 3) := by decide +kernel
theorem d_JMath_floorDiv_17 : decode prog_18_method_47_code 17 = .ok (.iload_n 2, 1) := by decide +kernel
theorem d_JMath_floorDiv_18 : decode prog_18_method_47_code 18 = .ok (.iconst 1, 1) := by decide +kernel
theorem d_JMath_floorDiv_19 : decode prog_18_method_47_code 19 = .ok (.isub, 1) := by decide +kernel
theorem d_JMath_floorDiv_20 : decode prog_18_method_47_code 20 = .ok (.ireturn, 1) := by decide +kernel
def m_JMath_min_JJJ : mr_T := (⟨"java/lang/Math", "min", "(JJ)J"⟩, prog_18_method_70_code, 4, some .long)
theorem d_JMath_min_JJJ_0 : decode prog_18_method_70_code 0 = .ok (.lload_n 0, 1) := by decide +kernel
theorem d_JMath_min_JJJ_1 : decode prog_18_method_70_code 1 = .ok (.lload_n 2, 1) := by decide +kernel
theorem d_JMath_min_JJJ_2 : decode prog_18_method_70_code 2 = .ok (.lcmp, 1) := by decide +kernel
theorem d_JMath_min_JJJ_3 : decode prog_18_method_70_code 3 = .ok (.ifCond .gt 7, 3) := by decide +kernel
theorem d_JMath_min_JJJ_10 : decode prog_18_method_70_code 10 = .ok (.lload_n 2, 1) := by decide +kernel
theorem d_JMath_min_JJJ_11 : decode prog_18_method_70_code 11 = .ok (.lreturn, 1) := by decide +kernel
theorem d_JMath_min_JJJ_6 : decode prog_18_method_70_code 6 = .ok (.lload_n 0, 1) := by decide +kernel
theorem d_JMath_min_JJJ_7 : decode prog_18_method_70_code 7 = .ok (.goto 4, 3) := by decide +kernel
def m_JLong_bitCount : mr_T := (⟨"java/lang/Long", "bitCount", "(J)I"⟩, prog_17_method_50_code, 2, some .int)
theorem d_JLong_bitCount_0 : decode prog_17_method_50_code 0 = .ok (.lload_n 0, 1) := by decide +kernel
theorem d_JLong_bitCount_1 : decode prog_17_method_50_code 1 = .ok (.lload_n 0, 1) := by decide +kernel
theorem d_JLong_bitCount_2 : decode prog_17_method_50_code 2 = .ok (.iconst 1, 1) := by decide +kernel
theorem d_JLong_bitCount_3 : decode prog_17_method_50_code 3 = .ok (.lushr, 1) := by decide +kernel
theorem d_JLong_bitCount_4 : decode prog_17_method_50_code 4 = .ok (.ldc2_w 314, 3) := by decide +kernel
theorem cst_JLong_314 : Cond.constantLong "java/lang/Long" 314 (Int64.ofInt 6148914691236517205) ∈ gw := gwi_1329
theorem d_JLong_bitCount_7 : decode prog_17_method_50_code 7 = .ok (.land, 1) := by decide +kernel
theorem d_JLong_bitCount_8 : decode prog_17_method_50_code 8 = .ok (.lsub, 1) := by decide +kernel
theorem d_JLong_bitCount_9 : decode prog_17_method_50_code 9 = .ok (.lstore_n 0, 1) := by decide +kernel
theorem d_JLong_bitCount_10 : decode prog_17_method_50_code 10 = .ok (.lload_n 0, 1) := by decide +kernel
theorem d_JLong_bitCount_11 : decode prog_17_method_50_code 11 = .ok (.ldc2_w 316, 3) := by decide +kernel
theorem cst_JLong_316 : Cond.constantLong "java/lang/Long" 316 (Int64.ofInt 3689348814741910323) ∈ gw := gwi_1330
theorem d_JLong_bitCount_14 : decode prog_17_method_50_code 14 = .ok (.land, 1) := by decide +kernel
theorem d_JLong_bitCount_15 : decode prog_17_method_50_code 15 = .ok (.lload_n 0, 1) := by decide +kernel
theorem d_JLong_bitCount_16 : decode prog_17_method_50_code 16 = .ok (.iconst 2, 1) := by decide +kernel
theorem d_JLong_bitCount_17 : decode prog_17_method_50_code 17 = .ok (.lushr, 1) := by decide +kernel
theorem d_JLong_bitCount_18 : decode prog_17_method_50_code 18 = .ok (.ldc2_w 316, 3) := by decide +kernel
theorem d_JLong_bitCount_21 : decode prog_17_method_50_code 21 = .ok (.land, 1) := by decide +kernel
theorem d_JLong_bitCount_22 : decode prog_17_method_50_code 22 = .ok (.ladd, 1) := by decide +kernel
theorem d_JLong_bitCount_23 : decode prog_17_method_50_code 23 = .ok (.lstore_n 0, 1) := by decide +kernel
theorem d_JLong_bitCount_24 : decode prog_17_method_50_code 24 = .ok (.lload_n 0, 1) := by decide +kernel
theorem d_JLong_bitCount_25 : decode prog_17_method_50_code 25 = .ok (.lload_n 0, 1) := by decide +kernel
theorem d_JLong_bitCount_26 : decode prog_17_method_50_code 26 = .ok (.iconst 4, 1) := by decide +kernel
theorem d_JLong_bitCount_27 : decode prog_17_method_50_code 27 = .ok (.lushr, 1) := by decide +kernel
theorem d_JLong_bitCount_28 : decode prog_17_method_50_code 28 = .ok (.ladd, 1) := by decide +kernel
theorem d_JLong_bitCount_29 : decode prog_17_method_50_code 29 = .ok (.ldc2_w 318, 3) := by decide +kernel
theorem cst_JLong_318 : Cond.constantLong "java/lang/Long" 318 (Int64.ofInt 1085102592571150095) ∈ gw := gwi_1331
theorem d_JLong_bitCount_32 : decode prog_17_method_50_code 32 = .ok (.land, 1) := by decide +kernel
theorem d_JLong_bitCount_33 : decode prog_17_method_50_code 33 = .ok (.lstore_n 0, 1) := by decide +kernel
theorem d_JLong_bitCount_34 : decode prog_17_method_50_code 34 = .ok (.lload_n 0, 1) := by decide +kernel
theorem d_JLong_bitCount_35 : decode prog_17_method_50_code 35 = .ok (.lload_n 0, 1) := by decide +kernel
theorem d_JLong_bitCount_36 : decode prog_17_method_50_code 36 = .ok (.bipush 8, 2) := by decide +kernel
theorem d_JLong_bitCount_38 : decode prog_17_method_50_code 38 = .ok (.lushr, 1) := by decide +kernel
theorem d_JLong_bitCount_39 : decode prog_17_method_50_code 39 = .ok (.ladd, 1) := by decide +kernel
theorem d_JLong_bitCount_40 : decode prog_17_method_50_code 40 = .ok (.lstore_n 0, 1) := by decide +kernel
theorem d_JLong_bitCount_41 : decode prog_17_method_50_code 41 = .ok (.lload_n 0, 1) := by decide +kernel
theorem d_JLong_bitCount_42 : decode prog_17_method_50_code 42 = .ok (.lload_n 0, 1) := by decide +kernel
theorem d_JLong_bitCount_43 : decode prog_17_method_50_code 43 = .ok (.bipush 16, 2) := by decide +kernel
theorem d_JLong_bitCount_45 : decode prog_17_method_50_code 45 = .ok (.lushr, 1) := by decide +kernel
theorem d_JLong_bitCount_46 : decode prog_17_method_50_code 46 = .ok (.ladd, 1) := by decide +kernel
theorem d_JLong_bitCount_47 : decode prog_17_method_50_code 47 = .ok (.lstore_n 0, 1) := by decide +kernel
theorem d_JLong_bitCount_48 : decode prog_17_method_50_code 48 = .ok (.lload_n 0, 1) := by decide +kernel
theorem d_JLong_bitCount_49 : decode prog_17_method_50_code 49 = .ok (.lload_n 0, 1) := by decide +kernel
theorem d_JLong_bitCount_50 : decode prog_17_method_50_code 50 = .ok (.bipush 32, 2) := by decide +kernel
theorem d_JLong_bitCount_52 : decode prog_17_method_50_code 52 = .ok (.lushr, 1) := by decide +kernel
theorem d_JLong_bitCount_53 : decode prog_17_method_50_code 53 = .ok (.ladd, 1) := by decide +kernel
theorem d_JLong_bitCount_54 : decode prog_17_method_50_code 54 = .ok (.lstore_n 0, 1) := by decide +kernel
theorem d_JLong_bitCount_55 : decode prog_17_method_50_code 55 = .ok (.lload_n 0, 1) := by decide +kernel
theorem d_JLong_bitCount_56 : decode prog_17_method_50_code 56 = .ok (.l2i, 1) := by decide +kernel
theorem d_JLong_bitCount_57 : decode prog_17_method_50_code 57 = .ok (.bipush 127, 2) := by decide +kernel
theorem d_JLong_bitCount_59 : decode prog_17_method_50_code 59 = .ok (.iand, 1) := by decide +kernel
theorem d_JLong_bitCount_60 : decode prog_17_method_50_code 60 = .ok (.ireturn, 1) := by decide +kernel
def m_JInteger_bitCount : mr_T := (⟨"java/lang/Integer", "bitCount", "(I)I"⟩, prog_16_method_49_code, 1, some .int)
theorem d_JInteger_bitCount_0 : decode prog_16_method_49_code 0 = .ok (.iload_n 0, 1) := by decide +kernel
theorem d_JInteger_bitCount_1 : decode prog_16_method_49_code 1 = .ok (.iload_n 0, 1) := by decide +kernel
theorem d_JInteger_bitCount_2 : decode prog_16_method_49_code 2 = .ok (.iconst 1, 1) := by decide +kernel
theorem d_JInteger_bitCount_3 : decode prog_16_method_49_code 3 = .ok (.iushr, 1) := by decide +kernel
theorem d_JInteger_bitCount_4 : decode prog_16_method_49_code 4 = .ok (.ldc_w 265, 3) := by decide +kernel
theorem cst_JInteger_265 : Cond.constant "java/lang/Integer" 265 (Int32.ofInt 1431655765) ∈ gw := gwi_836
theorem d_JInteger_bitCount_7 : decode prog_16_method_49_code 7 = .ok (.iand, 1) := by decide +kernel
theorem d_JInteger_bitCount_8 : decode prog_16_method_49_code 8 = .ok (.isub, 1) := by decide +kernel
theorem d_JInteger_bitCount_9 : decode prog_16_method_49_code 9 = .ok (.istore_n 0, 1) := by decide +kernel
theorem d_JInteger_bitCount_10 : decode prog_16_method_49_code 10 = .ok (.iload_n 0, 1) := by decide +kernel
theorem d_JInteger_bitCount_11 : decode prog_16_method_49_code 11 = .ok (.ldc_w 266, 3) := by decide +kernel
theorem cst_JInteger_266 : Cond.constant "java/lang/Integer" 266 (Int32.ofInt 858993459) ∈ gw := gwi_837
theorem d_JInteger_bitCount_14 : decode prog_16_method_49_code 14 = .ok (.iand, 1) := by decide +kernel
theorem d_JInteger_bitCount_15 : decode prog_16_method_49_code 15 = .ok (.iload_n 0, 1) := by decide +kernel
theorem d_JInteger_bitCount_16 : decode prog_16_method_49_code 16 = .ok (.iconst 2, 1) := by decide +kernel
theorem d_JInteger_bitCount_17 : decode prog_16_method_49_code 17 = .ok (.iushr, 1) := by decide +kernel
theorem d_JInteger_bitCount_18 : decode prog_16_method_49_code 18 = .ok (.ldc_w 266, 3) := by decide +kernel
theorem d_JInteger_bitCount_21 : decode prog_16_method_49_code 21 = .ok (.iand, 1) := by decide +kernel
theorem d_JInteger_bitCount_22 : decode prog_16_method_49_code 22 = .ok (.iadd, 1) := by decide +kernel
theorem d_JInteger_bitCount_23 : decode prog_16_method_49_code 23 = .ok (.istore_n 0, 1) := by decide +kernel
theorem d_JInteger_bitCount_24 : decode prog_16_method_49_code 24 = .ok (.iload_n 0, 1) := by decide +kernel
theorem d_JInteger_bitCount_25 : decode prog_16_method_49_code 25 = .ok (.iload_n 0, 1) := by decide +kernel
theorem d_JInteger_bitCount_26 : decode prog_16_method_49_code 26 = .ok (.iconst 4, 1) := by decide +kernel
theorem d_JInteger_bitCount_27 : decode prog_16_method_49_code 27 = .ok (.iushr, 1) := by decide +kernel
theorem d_JInteger_bitCount_28 : decode prog_16_method_49_code 28 = .ok (.iadd, 1) := by decide +kernel
theorem d_JInteger_bitCount_29 : decode prog_16_method_49_code 29 = .ok (.ldc_w 267, 3) := by decide +kernel
theorem cst_JInteger_267 : Cond.constant "java/lang/Integer" 267 (Int32.ofInt 252645135) ∈ gw := gwi_838
theorem d_JInteger_bitCount_32 : decode prog_16_method_49_code 32 = .ok (.iand, 1) := by decide +kernel
theorem d_JInteger_bitCount_33 : decode prog_16_method_49_code 33 = .ok (.istore_n 0, 1) := by decide +kernel
theorem d_JInteger_bitCount_34 : decode prog_16_method_49_code 34 = .ok (.iload_n 0, 1) := by decide +kernel
theorem d_JInteger_bitCount_35 : decode prog_16_method_49_code 35 = .ok (.iload_n 0, 1) := by decide +kernel
theorem d_JInteger_bitCount_36 : decode prog_16_method_49_code 36 = .ok (.bipush 8, 2) := by decide +kernel
theorem d_JInteger_bitCount_38 : decode prog_16_method_49_code 38 = .ok (.iushr, 1) := by decide +kernel
theorem d_JInteger_bitCount_39 : decode prog_16_method_49_code 39 = .ok (.iadd, 1) := by decide +kernel
theorem d_JInteger_bitCount_40 : decode prog_16_method_49_code 40 = .ok (.istore_n 0, 1) := by decide +kernel
theorem d_JInteger_bitCount_41 : decode prog_16_method_49_code 41 = .ok (.iload_n 0, 1) := by decide +kernel
theorem d_JInteger_bitCount_42 : decode prog_16_method_49_code 42 = .ok (.iload_n 0, 1) := by decide +kernel
theorem d_JInteger_bitCount_43 : decode prog_16_method_49_code 43 = .ok (.bipush 16, 2) := by decide +kernel
theorem d_JInteger_bitCount_45 : decode prog_16_method_49_code 45 = .ok (.iushr, 1) := by decide +kernel
theorem d_JInteger_bitCount_46 : decode prog_16_method_49_code 46 = .ok (.iadd, 1) := by decide +kernel
theorem d_JInteger_bitCount_47 : decode prog_16_method_49_code 47 = .ok (.istore_n 0, 1) := by decide +kernel
theorem d_JInteger_bitCount_48 : decode prog_16_method_49_code 48 = .ok (.iload_n 0, 1) := by decide +kernel
theorem d_JInteger_bitCount_49 : decode prog_16_method_49_code 49 = .ok (.bipush 63, 2) := by decide +kernel
theorem d_JInteger_bitCount_51 : decode prog_16_method_49_code 51 = .ok (.iand, 1) := by decide +kernel
theorem d_JInteger_bitCount_52 : decode prog_16_method_49_code 52 = .ok (.ireturn, 1) := by decide +kernel
def m_JLong_compare : mr_T := (⟨"java/lang/Long", "compare", "(JJ)I"⟩, prog_17_method_42_code, 4, some .int)
theorem d_JLong_compare_0 : decode prog_17_method_42_code 0 = .ok (.lload_n 0, 1) := by decide +kernel
theorem d_JLong_compare_1 : decode prog_17_method_42_code 1 = .ok (.lload_n 2, 1) := by decide +kernel
theorem d_JLong_compare_2 : decode prog_17_method_42_code 2 = .ok (.lcmp, 1) := by decide +kernel
theorem d_JLong_compare_3 : decode prog_17_method_42_code 3 = .ok (.ifCond .ge 7, 3) := by decide +kernel
theorem d_JLong_compare_10 : decode prog_17_method_42_code 10 = .ok (.lload_n 0, 1) := by decide +kernel
theorem d_JLong_compare_11 : decode prog_17_method_42_code 11 = .ok (.lload_n 2, 1) := by decide +kernel
theorem d_JLong_compare_12 : decode prog_17_method_42_code 12 = .ok (.lcmp, 1) := by decide +kernel
theorem d_JLong_compare_13 : decode prog_17_method_42_code 13 = .ok (.ifCond .ne 7, 3) := by decide +kernel
theorem d_JLong_compare_20 : decode prog_17_method_42_code 20 = .ok (.iconst 1, 1) := by decide +kernel
theorem d_JLong_compare_21 : decode prog_17_method_42_code 21 = .ok (.ireturn, 1) := by decide +kernel
theorem d_JLong_compare_16 : decode prog_17_method_42_code 16 = .ok (.iconst 0, 1) := by decide +kernel
theorem d_JLong_compare_17 : decode prog_17_method_42_code 17 = .ok (.goto 4, 3) := by decide +kernel
theorem d_JLong_compare_6 : decode prog_17_method_42_code 6 = .ok (.iconst (-1), 1) := by decide +kernel
theorem d_JLong_compare_7 : decode prog_17_method_42_code 7 = .ok (.goto 14, 3) := by decide +kernel
theorem s_JPreconditions_checkIndex {G : cx_T} {h : ah_T} {a0 : Int} {a1 : Int} (la0 : 0 ≤ a0) (ua0 : a0 ≤ 2147483647) (la1 : 0 ≤ a1) (ua1 : a1 ≤ 2147483647) (hlt : a0 < a1) : con G 0 0 0 m_JPreconditions_checkIndex [av_I a0, av_I a1, av_R none] h (fun r h' => ∃ z, r = some (av_I z) ∧ ((-2147483648) ≤ z ∧ z ≤ 2147483647) ∧ h = h') := by
  refine con_of (L := [some (av_I a0), some (av_I a1), some (av_R none)]) (by decide +kernel) (Nat.le_of_ble_eq_true rfl) rfl ?_
  refine A_iload_n 0 d_JPreconditions_checkIndex_0 rfl rfl ?_
  refine A_if_lt (tgt := 9) d_JPreconditions_checkIndex_1 (by decide) (fun c => False.elim (by omega)) (fun c1 => ?_)
  refine A_iload_n 0 d_JPreconditions_checkIndex_4 rfl rfl ?_
  refine A_iload_n 1 d_JPreconditions_checkIndex_5 rfl rfl ?_
  refine A_icmp_lt (tgt := 16) d_JPreconditions_checkIndex_6 (by decide) (fun c2 => ?_) (fun c => False.elim (by omega))
  refine A_iload_n 0 d_JPreconditions_checkIndex_16 rfl rfl ?_
  exact A_iret d_JPreconditions_checkIndex_17 (by decide) rfl ⟨_, rfl, ⟨by omega, by omega⟩, rfl⟩
theorem s_JPreconditions_checkIndex_f {G : cx_T} {h : ah_T} {a0 : Int} {a1 : Int} (la0 : 0 ≤ a0) (ua0 : a0 ≤ 2147483647) (la1 : 0 ≤ a1) (ua1 : a1 ≤ 2147483647) (hlt : a0 < a1) : con G 0 0 0 m_JPreconditions_checkIndex [av_I a0, av_I a1, av_S 9] h (fun r h' => ∃ z, r = some (av_I z) ∧ ((-2147483648) ≤ z ∧ z ≤ 2147483647) ∧ h = h') := by
  refine con_of (L := [some (av_I a0), some (av_I a1), some (av_S 9)]) (by decide +kernel) (Nat.le_of_ble_eq_true rfl) rfl ?_
  refine A_iload_n 0 d_JPreconditions_checkIndex_0 rfl rfl ?_
  refine A_if_lt (tgt := 9) d_JPreconditions_checkIndex_1 (by decide) (fun c => False.elim (by omega)) (fun c1 => ?_)
  refine A_iload_n 0 d_JPreconditions_checkIndex_4 rfl rfl ?_
  refine A_iload_n 1 d_JPreconditions_checkIndex_5 rfl rfl ?_
  refine A_icmp_lt (tgt := 16) d_JPreconditions_checkIndex_6 (by decide) (fun c2 => ?_) (fun c => False.elim (by omega))
  refine A_iload_n 0 d_JPreconditions_checkIndex_16 rfl rfl ?_
  exact A_iret d_JPreconditions_checkIndex_17 (by decide) rfl ⟨_, rfl, ⟨by omega, by omega⟩, rfl⟩
theorem s_JString_checkIndex {G : cx_T} {h : ah_T} {a0 : Int} {a1 : Int} (la0 : 0 ≤ a0) (ua0 : a0 ≤ 2147483647) (la1 : 0 ≤ a1) (ua1 : a1 ≤ 2147483647) (hlt : a0 < a1) : con G 1 0 0 m_JString_checkIndex [av_I a0, av_I a1] h (fun r h' => r = none ∧ h = h') := by
  refine con_of (L := [some (av_I a0), some (av_I a1)]) (by decide +kernel) (Nat.le_of_ble_eq_true rfl) rfl ?_
  refine A_iload_n 0 d_JString_checkIndex_0 rfl rfl ?_
  refine A_iload_n 1 d_JString_checkIndex_1 rfl rfl ?_
  refine A_getsF gs_JString_1053 d_JString_checkIndex_2 ?_ ?_
  · refine A_callS3 m_JPreconditions_checkIndex d_JString_checkIndex_5 l_JString_1059 k_JPreconditions_checkIndex (by decide +kernel) (by decide) (Nat.le_of_ble_eq_true rfl) (s_JPreconditions_checkIndex  (by omega) (by omega) (by omega) (by omega) (by omega)) (fun r h1 hq => ?_)
    obtain ⟨x3, rfl, ⟨_, _⟩, rfl⟩ := hq
    refine A_popI d_JString_checkIndex_8 ?_
    exact A_vret d_JString_checkIndex_9 (by decide) rfl ⟨rfl, rfl⟩
  · refine A_callS3 m_JPreconditions_checkIndex d_JString_checkIndex_5 l_JString_1059 k_JPreconditions_checkIndex (by decide +kernel) (by decide) (Nat.le_of_ble_eq_true rfl) (s_JPreconditions_checkIndex_f  (by omega) (by omega) (by omega) (by omega) (by omega)) (fun r h4 hq => ?_)
    obtain ⟨x6, rfl, ⟨_, _⟩, rfl⟩ := hq
    refine A_popI d_JString_checkIndex_8 ?_
    exact A_vret d_JString_checkIndex_9 (by decide) rfl ⟨rfl, rfl⟩
theorem s_JString_isLatin1 {G : cx_T} {h : ah_T} {i : Nat} (hi : i < 7) : con G 0 0 0 m_JString_isLatin1 [av_S (10 + i)] h (fun r h' => ∃ z, r = some (av_I z) ∧ (1 ≤ z ∧ z ≤ 1) ∧ h = h') := by
  refine con_of (L := [some (av_S (10 + i))]) (by decide +kernel) (Nat.le_of_ble_eq_true rfl) rfl ?_
  refine A_getsC gs_JString_38 d_JString_isLatin1_0 ?_
  refine A_if_eq (tgt := 17) d_JString_isLatin1_3 (by decide) (fun c => absurd c (by decide)) (fun _ => ?_)
  refine A_aload_nS 0 d_JString_isLatin1_6 rfl rfl ?_
  refine A_scod (i := i) (by omega) gs_JString_15 d_JString_isLatin1_7 ?_
  refine A_if_ne (tgt := 17) d_JString_isLatin1_10 (by decide) (fun c => absurd c (by decide)) (fun _ => ?_)
  refine A_iconst d_JString_isLatin1_13 rfl ?_
  refine A_goto (tgt := 18) d_JString_isLatin1_14 (by decide) ?_
  exact A_zret d_JString_isLatin1_18 (by decide) rfl (by omega) ⟨_, rfl, ⟨by omega, by omega⟩, rfl⟩
theorem s_JString_coder {G : cx_T} {h : ah_T} {i : Nat} (hi : i < 7) : con G 0 0 0 m_JString_coder [av_S (10 + i)] h (fun r h' => ∃ z, r = some (av_I z) ∧ (0 ≤ z ∧ z ≤ 0) ∧ h = h') := by
  refine con_of (L := [some (av_S (10 + i))]) (by decide +kernel) (Nat.le_of_ble_eq_true rfl) rfl ?_
  refine A_getsC gs_JString_38 d_JString_coder_0 ?_
  refine A_if_eq (tgt := 13) d_JString_coder_3 (by decide) (fun c => absurd c (by decide)) (fun _ => ?_)
  refine A_aload_nS 0 d_JString_coder_6 rfl rfl ?_
  refine A_scod (i := i) (by omega) gs_JString_15 d_JString_coder_7 ?_
  refine A_goto (tgt := 14) d_JString_coder_10 (by decide) ?_
  exact A_bret d_JString_coder_14 (by decide) rfl (by decide) ⟨_, rfl, ⟨by omega, by omega⟩, rfl⟩
theorem s_JString_length {G : cx_T} {h : ah_T} {i : Nat} (hi : i < 7) : con G 1 0 0 m_JString_length [av_S (10 + i)] h (fun r h' => ∃ z, r = some (av_I z) ∧ (1 ≤ z ∧ z ≤ 13) ∧ (z = ((sk_len.getD i 0 : Nat) : Int)) ∧ h = h') := by
  refine con_of (L := [some (av_S (10 + i))]) (by decide +kernel) (Nat.le_of_ble_eq_true rfl) rfl ?_
  refine A_aload_nS 0 d_JString_length_0 rfl rfl ?_
  refine A_sval (i := i) (by omega) gs_JString_9 d_JString_length_1 ?_
  refine A_slen (i := i) (by omega) rfl d_JString_length_4 ?_
  refine A_nrI (fun x1 ex1 _ _ => ?_)
  have bx1 : 1 ≤ x1 ∧ x1 ≤ 13 := slen_r ex1 (by omega)
  refine A_aload_nS 0 d_JString_length_5 rfl rfl ?_
  refine A_pc (pc' := 6) rfl ?_
  refine A_callT0 (i := i) (N := m_JString_coder) (by omega) rfl d_JString_length_6 ll_JString_335 k_JString_coder (by decide +kernel) (by decide) (Nat.le_of_ble_eq_true rfl) (s_JString_coder  (i := i) (by omega)) (fun r h2 hq => ?_)
  obtain ⟨x4, rfl, ⟨_, _⟩, rfl⟩ := hq
  obtain rfl : x4 = 0 := by omega
  refine A_ishr d_JString_length_9 ?_
  refine A_nrI (fun x5 ex5 _ _ => ?_)
  have bx5 := ishr0 ex5 (by unfold i32; omega)
  exact A_iret d_JString_length_10 (by decide) rfl ⟨_, rfl, ⟨by omega, by omega⟩, by omega, rfl⟩
theorem s_JStringLatin1_charAt {G : cx_T} {h : ah_T} {i : Nat} {a1 : Int} (hi : i < 7) (la1 : 0 ≤ a1) (ua1 : a1 ≤ 2147483647) (hlt : a1 < ((sk_len.getD i 0 : Nat) : Int)) : con G 2 0 0 m_JStringLatin1_charAt [av_S (20 + i), av_I a1] h (fun r h' => ∃ z, r = some (av_I z) ∧ (0 ≤ z ∧ z ≤ 127) ∧ (z = ((sk_byt.getD i []).getD a1.toNat 0).toInt) ∧ h = h') := by
  refine con_of (L := [some (av_S (20 + i)), some (av_I a1)]) (by decide +kernel) (Nat.le_of_ble_eq_true rfl) rfl ?_
  refine A_iload_n 1 d_JStringLatin1_charAt_0 rfl rfl ?_
  refine A_aload_nS 0 d_JStringLatin1_charAt_1 rfl rfl ?_
  refine A_slen (i := i) (by omega) rfl d_JStringLatin1_charAt_2 ?_
  refine A_nrI (fun x1 ex1 _ _ => ?_)
  have bx1 : 1 ≤ x1 ∧ x1 ≤ 13 := slen_r ex1 (by omega)
  refine A_callS2 m_JString_checkIndex d_JStringLatin1_charAt_3 l_JStringLatin1_9 k_JString_checkIndex (by decide +kernel) (by decide) (Nat.le_of_ble_eq_true rfl) (s_JString_checkIndex  (by omega) (by omega) (by omega) (by omega) (by omega)) (fun r h2 hq => ?_)
  obtain ⟨rfl, rfl⟩ := hq
  refine A_aload_nS 0 d_JStringLatin1_charAt_6 rfl rfl ?_
  refine A_iload_n 1 d_JStringLatin1_charAt_7 rfl rfl ?_
  refine A_sbyt (i := i) (by omega) (by omega) hlt d_JStringLatin1_charAt_8 ?_
  refine A_nrI (fun x4 ex4 _ _ => ?_)
  have bx4 : 0 ≤ x4 ∧ x4 ≤ 127 := sbyt_r ex4
  refine A_sipush d_JStringLatin1_charAt_9 rfl ?_
  refine A_iand d_JStringLatin1_charAt_12 ?_
  refine A_nrI (fun x5 ex5 _ _ => ?_)
  have bx5 := and_id (m := 255) 8 ex5 (by decide) (by decide) (by decide) (by omega) (by omega)
  refine A_pc (pc' := 13) rfl ?_
  refine A_i2c d_JStringLatin1_charAt_13 ?_
  refine A_cI (z := x5) (i2c_r (by omega) (by omega)) ?_
  exact A_cret d_JStringLatin1_charAt_14 (by decide) rfl ⟨by omega, by omega⟩ ⟨_, rfl, ⟨by omega, by omega⟩, by omega, rfl⟩
theorem s_JString_charAt {G : cx_T} {h : ah_T} {i : Nat} {a1 : Int} (hi : i < 7) (la1 : 0 ≤ a1) (ua1 : a1 ≤ 2147483647) (hlt : a1 < ((sk_len.getD i 0 : Nat) : Int)) : con G 4 0 0 m_JString_charAt [av_S (10 + i), av_I a1] h (fun r h' => ∃ z, r = some (av_I z) ∧ (0 ≤ z ∧ z ≤ 127) ∧ (z = ((sk_byt.getD i []).getD a1.toNat 0).toInt) ∧ h = h') := by
  refine con_of (L := [some (av_S (10 + i)), some (av_I a1)]) (by decide +kernel) (Nat.le_of_ble_eq_true rfl) rfl ?_
  refine A_aload_nS 0 d_JString_charAt_0 rfl rfl ?_
  refine A_pc (pc' := 1) rfl ?_
  refine A_callT0 (i := i) (N := m_JString_isLatin1) (by omega) rfl d_JString_charAt_1 ll_JString_492 k_JString_isLatin1 (by decide +kernel) (by decide) (Nat.le_of_ble_eq_true rfl) (s_JString_isLatin1  (i := i) (by omega)) (fun r h1 hq => ?_)
  obtain ⟨x3, rfl, ⟨_, _⟩, rfl⟩ := hq
  obtain rfl : x3 = 1 := by omega
  refine A_if_eq (tgt := 16) d_JString_charAt_4 (by decide) (fun c => absurd c (by decide)) (fun _ => ?_)
  refine A_aload_nS 0 d_JString_charAt_7 rfl rfl ?_
  refine A_sval (i := i) (by omega) gs_JString_9 d_JString_charAt_8 ?_
  refine A_iload_n 1 d_JString_charAt_11 rfl rfl ?_
  refine A_callS2 m_JStringLatin1_charAt d_JString_charAt_12 l_JString_495 k_JStringLatin1_charAt (by decide +kernel) (by decide) (Nat.le_of_ble_eq_true rfl) (s_JStringLatin1_charAt  (i := i) (by omega) (by omega) (by omega) (by first | omega | decide)) (fun r h5 hq => ?_)
  obtain ⟨x7, rfl, ⟨_, _⟩, xx7, rfl⟩ := hq
  exact A_cret d_JString_charAt_15 (by decide) rfl ⟨by omega, by omega⟩ ⟨_, rfl, ⟨by omega, by omega⟩, by omega, rfl⟩
theorem s_JStringLatin1_canEncode {G : cx_T} {h : ah_T} {a0 : Int} (la0 : 0 ≤ a0) (ua0 : a0 ≤ 255) : con G 0 0 0 m_JStringLatin1_canEncode [av_I a0] h (fun r h' => ∃ z, r = some (av_I z) ∧ (1 ≤ z ∧ z ≤ 1) ∧ h = h') := by
  refine con_of (L := [some (av_I a0)]) (by decide +kernel) (Nat.le_of_ble_eq_true rfl) rfl ?_
  refine A_iload_n 0 d_JStringLatin1_canEncode_0 rfl rfl ?_
  refine A_if_lt (tgt := 15) d_JStringLatin1_canEncode_1 (by decide) (fun c => False.elim (by omega)) (fun c1 => ?_)
  refine A_iload_n 0 d_JStringLatin1_canEncode_4 rfl rfl ?_
  refine A_sipush d_JStringLatin1_canEncode_5 rfl ?_
  refine A_icmp_gt (tgt := 15) d_JStringLatin1_canEncode_8 (by decide) (fun c => False.elim (by omega)) (fun c2 => ?_)
  refine A_iconst d_JStringLatin1_canEncode_11 rfl ?_
  refine A_goto (tgt := 16) d_JStringLatin1_canEncode_12 (by decide) ?_
  exact A_zret d_JStringLatin1_canEncode_16 (by decide) rfl (by omega) ⟨_, rfl, ⟨by omega, by omega⟩, rfl⟩
theorem s_JStringLatin1_indexOfChar {G : cx_T} {h : ah_T} {a1 : Int} {a2 : Int} {a3 : Int} (la1 : 0 ≤ a1) (ua1 : a1 ≤ 255) (la2 : 0 ≤ a2) (ua2 : a2 ≤ 0) (la3 : 13 ≤ a3) (ua3 : a3 ≤ 13) : con G 0 0 0 m_JStringLatin1_indexOfChar [av_S 26, av_I a1, av_I a2, av_I a3] h (fun r h' => ∃ z, r = some (av_I z) ∧ ((-1) ≤ z ∧ z ≤ 12) ∧ h = h') := by
  refine con_of (L := [some (av_S 26), some (av_I a1), some (av_I a2), some (av_I a3), none, none]) (by decide +kernel) (Nat.le_of_ble_eq_true rfl) rfl ?_
  refine A_iload_n 1 d_JStringLatin1_indexOfChar_0 rfl rfl ?_
  refine A_i2b d_JStringLatin1_indexOfChar_1 ?_
  refine A_nrI (fun x1 ex1 _ _ => ?_)
  have bx1 := i2b_r ex1
  refine A_istore (L' := [some (av_S 26), some (av_I a1), some (av_I a2), some (av_I a3), some (av_I x1), none]) d_JStringLatin1_indexOfChar_2 (Nat.le_of_ble_eq_true rfl) rfl ?_
  refine A_iload_n 2 d_JStringLatin1_indexOfChar_4 rfl rfl ?_
  refine A_istore (L' := [some (av_S 26), some (av_I a1), some (av_I a2), some (av_I a3), some (av_I x1), some (av_I a2)]) d_JStringLatin1_indexOfChar_5 (Nat.le_of_ble_eq_true rfl) rfl ?_
  have lp7 : ∀ (n : Nat) (i2 : Int) , 0 ≤ i2 → i2 ≤ 13 → (14 - i2).toNat < n → aw G (rm_R 0 0 0) m_JStringLatin1_indexOfChar 0 0 7 [some (av_S 26), some (av_I a1), some (av_I a2), some (av_I a3), some (av_I x1), some (av_I i2)] [] h (fun r h' => ∃ z, r = some (av_I z) ∧ ((-1) ≤ z ∧ z ≤ 12) ∧ h = h') := by
    intro n
    induction n with
    | zero => intro i2 _ _ hm; omega
    | succ n ih7 =>
      intro i2 hl0 hl1 hm
      refine A_iload d_JStringLatin1_indexOfChar_7 rfl ?_
      refine A_iload_n 3 d_JStringLatin1_indexOfChar_9 rfl rfl ?_
      refine A_icmp_ge (tgt := 31) d_JStringLatin1_indexOfChar_10 (by decide) (fun c3 => ?_) (fun c3 => ?_)
      · refine A_iconst d_JStringLatin1_indexOfChar_31 rfl ?_
        exact A_iret d_JStringLatin1_indexOfChar_32 (by decide) rfl ⟨_, rfl, ⟨by omega, by omega⟩, rfl⟩
      · refine A_aload_nS 0 d_JStringLatin1_indexOfChar_13 rfl rfl ?_
        refine A_iload d_JStringLatin1_indexOfChar_14 rfl ?_
        refine A_sbyt (i := 6) (by omega) (by omega) (Int.lt_of_lt_of_le (by omega : i2 < 13) (by decide)) d_JStringLatin1_indexOfChar_16 ?_
        refine A_nrI (fun x4 ex4 _ _ => ?_)
        have bx4 : 0 ≤ x4 ∧ x4 ≤ 127 := sbyt_r ex4
        refine A_iload d_JStringLatin1_indexOfChar_17 rfl ?_
        refine A_icmp_ne (tgt := 25) d_JStringLatin1_indexOfChar_19 (by decide) (fun c5 => ?_) (fun c5 => ?_)
        · refine A_iincv (z := (i2 + 1)) (L' := [some (av_S 26), some (av_I a1), some (av_I a2), some (av_I a3), some (av_I x1), some (av_I (i2 + 1))]) d_JStringLatin1_indexOfChar_25 rfl (w32_to (by omega) (by unfold i32; omega)) rfl ?_
          refine A_goto (tgt := 7) d_JStringLatin1_indexOfChar_28 (by decide) ?_
          exact ih7 (i2 + 1) (by omega) (by omega) (by omega)
        · refine A_iload d_JStringLatin1_indexOfChar_22 rfl ?_
          exact A_iret d_JStringLatin1_indexOfChar_24 (by decide) rfl ⟨_, rfl, ⟨by omega, by omega⟩, rfl⟩
  exact lp7 _ a2 (by omega) (by omega) (Nat.lt_succ_self _)
theorem s_JStringLatin1_indexOf {G : cx_T} {h : ah_T} {a1 : Int} {a2 : Int} {a3 : Int} (la1 : 0 ≤ a1) (ua1 : a1 ≤ 255) (la2 : 0 ≤ a2) (ua2 : a2 ≤ 0) (la3 : 13 ≤ a3) (ua3 : a3 ≤ 13) : con G 1 0 0 m_JStringLatin1_indexOf [av_S 26, av_I a1, av_I a2, av_I a3] h (fun r h' => ∃ z, r = some (av_I z) ∧ ((-1) ≤ z ∧ z ≤ 12) ∧ h = h') := by
  refine con_of (L := [some (av_S 26), some (av_I a1), some (av_I a2), some (av_I a3)]) (by decide +kernel) (Nat.le_of_ble_eq_true rfl) rfl ?_
  refine A_iload_n 1 d_JStringLatin1_indexOf_0 rfl rfl ?_
  refine A_callS1 m_JStringLatin1_canEncode d_JStringLatin1_indexOf_1 l_JStringLatin1_88 k_JStringLatin1_canEncode (by decide +kernel) (by decide) (Nat.le_of_ble_eq_true rfl) (s_JStringLatin1_canEncode  (by omega) (by omega)) (fun r h1 hq => ?_)
  obtain ⟨x3, rfl, ⟨_, _⟩, rfl⟩ := hq
  obtain rfl : x3 = 1 := by omega
  refine A_if_ne (tgt := 9) d_JStringLatin1_indexOf_4 (by decide) (fun _ => ?_) (fun c => absurd c (by decide))
  refine A_iload_n 2 d_JStringLatin1_indexOf_9 rfl rfl ?_
  refine A_iconst d_JStringLatin1_indexOf_10 rfl ?_
  refine A_mmax d_JStringLatin1_indexOf_11 lm_JStringLatin1_92 ma_max (by decide) (by decide) (Nat.le_of_ble_eq_true rfl) rfl ?_
  refine A_nrI (fun x5 ex5 _ _ => ?_)
  have bx5 := mmax_r ex5
  refine A_istore_n 2 (L' := [some (av_S 26), some (av_I a1), some (av_I x5), some (av_I a3)]) d_JStringLatin1_indexOf_14 rfl (Nat.le_of_ble_eq_true rfl) rfl ?_
  refine A_iload_n 3 d_JStringLatin1_indexOf_15 rfl rfl ?_
  refine A_pc (pc' := 16) rfl ?_
  refine A_aload_nS 0 d_JStringLatin1_indexOf_16 rfl rfl ?_
  refine A_slen (i := 6) (z := 13) (by decide) rfl d_JStringLatin1_indexOf_17 ?_
  refine A_mmin d_JStringLatin1_indexOf_18 lm_JStringLatin1_38 ma_min (by decide) (by decide) (Nat.le_of_ble_eq_true rfl) rfl ?_
  refine A_nrI (fun x6 ex6 _ _ => ?_)
  have bx6 := mmin_r ex6
  refine A_istore_n 3 (L' := [some (av_S 26), some (av_I a1), some (av_I x5), some (av_I x6)]) d_JStringLatin1_indexOf_21 rfl (Nat.le_of_ble_eq_true rfl) rfl ?_
  refine A_iload_n 2 d_JStringLatin1_indexOf_22 rfl rfl ?_
  refine A_iload_n 3 d_JStringLatin1_indexOf_23 rfl rfl ?_
  refine A_pc (pc' := 24) rfl ?_
  refine A_icmp_lt (tgt := 29) d_JStringLatin1_indexOf_24 (by decide) (fun c7 => ?_) (fun c => False.elim (by omega))
  refine A_aload_nS 0 d_JStringLatin1_indexOf_29 rfl rfl ?_
  refine A_iload_n 1 d_JStringLatin1_indexOf_30 rfl rfl ?_
  refine A_iload_n 2 d_JStringLatin1_indexOf_31 rfl rfl ?_
  refine A_iload_n 3 d_JStringLatin1_indexOf_32 rfl rfl ?_
  refine A_callS4 m_JStringLatin1_indexOfChar d_JStringLatin1_indexOf_33 l_JStringLatin1_95 k_JStringLatin1_indexOfChar (by decide +kernel) (by decide) (Nat.le_of_ble_eq_true rfl) (s_JStringLatin1_indexOfChar  (by omega) (by omega) (by omega) (by omega) (by omega) (by omega)) (fun r h8 hq => ?_)
  obtain ⟨x10, rfl, ⟨_, _⟩, rfl⟩ := hq
  exact A_iret d_JStringLatin1_indexOf_36 (by decide) rfl ⟨_, rfl, ⟨by omega, by omega⟩, rfl⟩
theorem s_JString_indexOf_III {G : cx_T} {h : ah_T} {a1 : Int} {a2 : Int} (la1 : 0 ≤ a1) (ua1 : a1 ≤ 255) (la2 : 0 ≤ a2) (ua2 : a2 ≤ 0) : con G 5 0 0 m_JString_indexOf_III [av_S 16, av_I a1, av_I a2] h (fun r h' => ∃ z, r = some (av_I z) ∧ ((-1) ≤ z ∧ z ≤ 12) ∧ h = h') := by
  refine con_of (L := [some (av_S 16), some (av_I a1), some (av_I a2)]) (by decide +kernel) (Nat.le_of_ble_eq_true rfl) rfl ?_
  refine A_aload_nS 0 d_JString_indexOf_III_0 rfl rfl ?_
  refine A_pc (pc' := 1) rfl ?_
  refine A_callT0 (i := 6) (N := m_JString_isLatin1) (by decide) rfl d_JString_indexOf_III_1 ll_JString_492 k_JString_isLatin1 (by decide +kernel) (by decide) (Nat.le_of_ble_eq_true rfl) (s_JString_isLatin1  (i := 6) (by decide)) (fun r h1 hq => ?_)
  obtain ⟨x3, rfl, ⟨_, _⟩, rfl⟩ := hq
  obtain rfl : x3 = 1 := by omega
  refine A_if_eq (tgt := 23) d_JString_indexOf_III_4 (by decide) (fun c => absurd c (by decide)) (fun _ => ?_)
  refine A_aload_nS 0 d_JString_indexOf_III_7 rfl rfl ?_
  refine A_sval (i := 6) (by decide) gs_JString_9 d_JString_indexOf_III_8 ?_
  refine A_iload_n 1 d_JString_indexOf_III_11 rfl rfl ?_
  refine A_iload_n 2 d_JString_indexOf_III_12 rfl rfl ?_
  refine A_aload_nS 0 d_JString_indexOf_III_13 rfl rfl ?_
  refine A_pc (pc' := 14) rfl ?_
  refine A_pc (pc' := 14) rfl ?_
  refine A_callT0 (i := 6) (N := m_JString_length) (by decide) rfl d_JString_indexOf_III_14 ll_JString_505 k_JString_length (by decide +kernel) (by decide) (Nat.le_of_ble_eq_true rfl) (s_JString_length  (i := 6) (by decide)) (fun r h5 hq => ?_)
  obtain ⟨x7, rfl, ⟨_, _⟩, xx7, rfl⟩ := hq
  obtain rfl : x7 = 13 := xx7.trans (by decide)
  refine A_callS4 m_JStringLatin1_indexOf d_JString_indexOf_III_17 l_JString_637 k_JStringLatin1_indexOf (by decide +kernel) (by decide) (Nat.le_of_ble_eq_true rfl) (s_JStringLatin1_indexOf  (by omega) (by omega) (by omega) (by omega) (by omega) (by omega)) (fun r h8 hq => ?_)
  obtain ⟨x10, rfl, ⟨_, _⟩, rfl⟩ := hq
  refine A_goto (tgt := 36) d_JString_indexOf_III_20 (by decide) ?_
  exact A_iret d_JString_indexOf_III_36 (by decide) rfl ⟨_, rfl, ⟨by omega, by omega⟩, rfl⟩
theorem s_JString_indexOf_II {G : cx_T} {h : ah_T} {a1 : Int} (la1 : 0 ≤ a1) (ua1 : a1 ≤ 255) : con G 6 0 0 m_JString_indexOf_II [av_S 16, av_I a1] h (fun r h' => ∃ z, r = some (av_I z) ∧ ((-1) ≤ z ∧ z ≤ 12) ∧ h = h') := by
  refine con_of (L := [some (av_S 16), some (av_I a1)]) (by decide +kernel) (Nat.le_of_ble_eq_true rfl) rfl ?_
  refine A_aload_nS 0 d_JString_indexOf_II_0 rfl rfl ?_
  refine A_iload_n 1 d_JString_indexOf_II_1 rfl rfl ?_
  refine A_iconst d_JString_indexOf_II_2 rfl ?_
  refine A_pc (pc' := 3) rfl ?_
  refine A_callT2 (i := 6) (N := m_JString_indexOf_III) (by decide) rfl d_JString_indexOf_II_3 ll_JString_633 k_JString_indexOf_III (by decide +kernel) (by decide) (Nat.le_of_ble_eq_true rfl) (s_JString_indexOf_III  (by omega) (by omega) (by omega) (by omega)) (fun r h1 hq => ?_)
  obtain ⟨x3, rfl, ⟨_, _⟩, rfl⟩ := hq
  exact A_iret d_JString_indexOf_II_6 (by decide) rfl ⟨_, rfl, ⟨by omega, by omega⟩, rfl⟩
theorem s_JMath_floorMod {G : cx_T} {h : ah_T} {a0 : Int} {a1 : Int} (la1 : 1 ≤ a1) (ua1 : a1 ≤ 1000) : con G 0 0 0 m_JMath_floorMod [av_I a0, av_I a1] h (fun r h' => ∃ z, r = some (av_I z) ∧ (0 ≤ z ∧ z ≤ 999) ∧ (z < a1 ∧ z = a0 % a1) ∧ h = h') := by
  refine con_ofF (L := [some (av_I a0), some (av_I a1), none]) (mathPlain0 rfl (by decide)) (Nat.le_of_ble_eq_true rfl) rfl ?_
  refine A_locI 0 rfl (fun ra => ?_)
  obtain ⟨_, _⟩ := ra
  refine A_iload_n 0 d_JMath_floorMod_0 rfl rfl ?_
  refine A_iload_n 1 d_JMath_floorMod_1 rfl rfl ?_
  refine A_iremc d_JMath_floorMod_2 (by omega) (fun x1 ex1 _ _ => ?_)
  have bx1 := rem_p ex1 (by omega)
  refine A_istore_n 2 (L' := [some (av_I a0), some (av_I a1), some (av_I x1)]) d_JMath_floorMod_3 rfl (Nat.le_of_ble_eq_true rfl) rfl ?_
  refine A_iload_n 0 d_JMath_floorMod_4 rfl rfl ?_
  refine A_pc (pc' := 5) rfl ?_
  refine A_iload_n 1 d_JMath_floorMod_5 rfl rfl ?_
  refine A_ixor d_JMath_floorMod_6 ?_
  refine A_nrI (fun x2 ex2 _ _ => ?_)
  have bx2 := xor_neg32 ex2 (by unfold i32; omega) (by unfold i32; omega)
  refine A_if_ge (tgt := 18) d_JMath_floorMod_7 (by decide) (fun c3 => ?_) (fun c3 => ?_)
  · refine A_iload_n 2 d_JMath_floorMod_18 rfl rfl ?_
    exact A_iret d_JMath_floorMod_19 (by decide) rfl ⟨_, rfl, ⟨by omega, by omega⟩, And.intro (by omega) (by omega), rfl⟩
  · refine A_iload_n 2 d_JMath_floorMod_10 rfl rfl ?_
    refine A_if_eq (tgt := 18) d_JMath_floorMod_11 (by decide) (fun c4 => ?_) (fun c4 => ?_)
    · refine A_iload_n 2 d_JMath_floorMod_18 rfl rfl ?_
      exact A_iret d_JMath_floorMod_19 (by decide) rfl ⟨_, rfl, ⟨by omega, by omega⟩, And.intro (by omega) (by omega), rfl⟩
    · refine A_iload_n 2 d_JMath_floorMod_14 rfl rfl ?_
      refine A_iload_n 1 d_JMath_floorMod_15 rfl rfl ?_
      refine A_iaddv (z := (x1 + a1)) d_JMath_floorMod_16 (w32_to (by omega) (by unfold i32; omega)) ?_
      exact A_iret d_JMath_floorMod_17 (by decide) rfl ⟨_, rfl, ⟨by omega, by omega⟩, And.intro (by omega) (by omega), rfl⟩
theorem s_JMath_floorDiv {G : cx_T} {h : ah_T} {a0 : Int} {a1 : Int} (la1 : 2 ≤ a1) (ua1 : a1 ≤ 1000) : con G 0 0 0 m_JMath_floorDiv [av_I a0, av_I a1] h (fun r h' => ∃ z, r = some (av_I z) ∧ ((-2147483648) ≤ z ∧ z ≤ 2147483647) ∧ (z = a0 / a1) ∧ h = h') := by
  refine con_ofF (L := [some (av_I a0), some (av_I a1), none]) (mathPlain0 rfl (by decide)) (Nat.le_of_ble_eq_true rfl) rfl ?_
  refine A_locI 0 rfl (fun ra => ?_)
  obtain ⟨_, _⟩ := ra
  refine A_iload_n 0 d_JMath_floorDiv_0 rfl rfl ?_
  refine A_iload_n 1 d_JMath_floorDiv_1 rfl rfl ?_
  refine A_idivc d_JMath_floorDiv_2 (by omega) (fun x1 ex1 _ _ => ?_)
  have bx1 := div_p ex1 (by unfold i32; omega) (by omega)
  refine A_istore_n 2 (L' := [some (av_I a0), some (av_I a1), some (av_I x1)]) d_JMath_floorDiv_3 rfl (Nat.le_of_ble_eq_true rfl) rfl ?_
  refine A_iload_n 0 d_JMath_floorDiv_4 rfl rfl ?_
  refine A_pc (pc' := 5) rfl ?_
  refine A_iload_n 1 d_JMath_floorDiv_5 rfl rfl ?_
  refine A_ixor d_JMath_floorDiv_6 ?_
  refine A_nrI (fun x2 ex2 _ _ => ?_)
  have bx2 := xor_neg32 ex2 (by unfold i32; omega) (by unfold i32; omega)
  refine A_if_ge (tgt := 21) d_JMath_floorDiv_7 (by decide) (fun c3 => ?_) (fun c3 => ?_)
  · refine A_iload_n 2 d_JMath_floorDiv_21 rfl rfl ?_
    exact A_iret d_JMath_floorDiv_22 (by decide) rfl ⟨_, rfl, ⟨by omega, by omega⟩, by omega, rfl⟩
  · refine A_iload_n 2 d_JMath_floorDiv_10 rfl rfl ?_
    refine A_iload_n 1 d_JMath_floorDiv_11 rfl rfl ?_
    refine A_imulw d_JMath_floorDiv_12 (fun x4 ex4 _ _ => ?_)
    rw [w32_id bx1.2.1] at ex4
    have cx4 := bx1.1
    generalize x1 * a1 = pq at ex4 cx4
    refine A_iload_n 0 d_JMath_floorDiv_13 rfl rfl ?_
    refine A_icmp_eq (tgt := 21) d_JMath_floorDiv_14 (by decide) (fun c5 => ?_) (fun c5 => ?_)
    · refine A_iload_n 2 d_JMath_floorDiv_21 rfl rfl ?_
      exact A_iret d_JMath_floorDiv_22 (by decide) rfl ⟨_, rfl, ⟨by omega, by omega⟩, by omega, rfl⟩
    · refine A_iload_n 2 d_JMath_floorDiv_17 rfl rfl ?_
      refine A_iconst d_JMath_floorDiv_18 rfl ?_
      refine A_isubv (z := (x1 - 1)) d_JMath_floorDiv_19 (w32_to (by omega) (by unfold i32; omega)) ?_
      exact A_iret d_JMath_floorDiv_20 (by decide) rfl ⟨_, rfl, ⟨by omega, by omega⟩, by omega, rfl⟩
theorem s_JMath_min_JJJ {G : cx_T} {h : ah_T} {a0 : Int} {a1 : Int}  : con G 0 0 0 m_JMath_min_JJJ [av_L a0, av_L a1] h (fun r h' => ∃ z, r = some (av_L z) ∧ ((-9223372036854775808) ≤ z ∧ z ≤ 9223372036854775807) ∧ (z ≤ a0 ∧ z ≤ a1 ∧ (z = a0 ∨ z = a1)) ∧ h = h') := by
  refine con_ofF (L := [some (av_L a0), none, some (av_L a1), none]) (mathPlain0 rfl (by decide)) (Nat.le_of_ble_eq_true rfl) rfl ?_
  refine A_locL 0 rfl (fun ra => ?_)
  obtain ⟨_, _⟩ := ra
  refine A_locL 2 rfl (fun ra => ?_)
  obtain ⟨_, _⟩ := ra
  refine A_lload_n 0 d_JMath_min_JJJ_0 rfl rfl ?_
  refine A_lload_n 2 d_JMath_min_JJJ_1 rfl rfl ?_
  refine A_lcmpn d_JMath_min_JJJ_2 (fun x1 lx1 ex1 gx1 _ _ => ?_)
  refine A_if_gt (tgt := 10) d_JMath_min_JJJ_3 (by decide) (fun c2 => ?_) (fun c2 => ?_)
  · have mc2 : (a0 - a1) > 0 := by omega
    refine A_lload_n 2 d_JMath_min_JJJ_10 rfl rfl ?_
    exact A_lret d_JMath_min_JJJ_11 (by decide) rfl ⟨_, rfl, ⟨by omega, by omega⟩, by omega, rfl⟩
  · have mc2 : (a0 - a1) ≤ 0 := by omega
    refine A_lload_n 0 d_JMath_min_JJJ_6 rfl rfl ?_
    refine A_goto (tgt := 11) d_JMath_min_JJJ_7 (by decide) ?_
    exact A_lret d_JMath_min_JJJ_11 (by decide) rfl ⟨_, rfl, ⟨by omega, by omega⟩, by omega, rfl⟩
theorem s_JLong_bitCount {G : cx_T} {h : ah_T} {a0 : Int}  : con G 0 0 0 m_JLong_bitCount [av_L a0] h (fun r h' => ∃ z, r = some (av_I z) ∧ ((-2147483648) ≤ z ∧ z ≤ 2147483647) ∧ h = h') := by
  refine con_of (L := [some (av_L a0), none]) (by decide +kernel) (Nat.le_of_ble_eq_true rfl) rfl ?_
  refine A_locL 0 rfl (fun ra => ?_)
  obtain ⟨_, _⟩ := ra
  refine A_lload_n 0 d_JLong_bitCount_0 rfl rfl ?_
  refine A_lload_n 0 d_JLong_bitCount_1 rfl rfl ?_
  refine A_iconst d_JLong_bitCount_2 rfl ?_
  refine A_lushr d_JLong_bitCount_3 ?_
  refine A_nrL (fun x1 ex1 _ _ => ?_)
  refine A_ldc2 (z := 6148914691236517205) d_JLong_bitCount_4 cst_JLong_314 rfl ?_
  refine A_pc (pc' := 7) rfl ?_
  refine A_land d_JLong_bitCount_7 ?_
  refine A_nrL (fun x2 ex2 _ _ => ?_)
  refine A_lsubw d_JLong_bitCount_8 (fun x3 _ _ _ => ?_)
  refine A_lstore_n 0 (L' := [some (av_L x3), none]) d_JLong_bitCount_9 rfl (Nat.le_of_ble_eq_true rfl) rfl ?_
  refine A_lload_n 0 d_JLong_bitCount_10 rfl rfl ?_
  refine A_ldc2 (z := 3689348814741910323) d_JLong_bitCount_11 cst_JLong_316 rfl ?_
  refine A_land d_JLong_bitCount_14 ?_
  refine A_nrL (fun x4 ex4 _ _ => ?_)
  refine A_pc (pc' := 15) rfl ?_
  refine A_lload_n 0 d_JLong_bitCount_15 rfl rfl ?_
  refine A_iconst d_JLong_bitCount_16 rfl ?_
  refine A_lushr d_JLong_bitCount_17 ?_
  refine A_nrL (fun x5 ex5 _ _ => ?_)
  refine A_ldc2 (z := 3689348814741910323) d_JLong_bitCount_18 cst_JLong_316 rfl ?_
  refine A_land d_JLong_bitCount_21 ?_
  refine A_nrL (fun x6 ex6 _ _ => ?_)
  refine A_laddw d_JLong_bitCount_22 (fun x7 _ _ _ => ?_)
  refine A_pc (pc' := 23) rfl ?_
  refine A_lstore_n 0 (L' := [some (av_L x7), none]) d_JLong_bitCount_23 rfl (Nat.le_of_ble_eq_true rfl) rfl ?_
  refine A_lload_n 0 d_JLong_bitCount_24 rfl rfl ?_
  refine A_lload_n 0 d_JLong_bitCount_25 rfl rfl ?_
  refine A_iconst d_JLong_bitCount_26 rfl ?_
  refine A_lushr d_JLong_bitCount_27 ?_
  refine A_nrL (fun x8 ex8 _ _ => ?_)
  refine A_laddw d_JLong_bitCount_28 (fun x9 _ _ _ => ?_)
  refine A_pc (pc' := 29) rfl ?_
  refine A_ldc2 (z := 1085102592571150095) d_JLong_bitCount_29 cst_JLong_318 rfl ?_
  refine A_land d_JLong_bitCount_32 ?_
  refine A_nrL (fun x10 ex10 _ _ => ?_)
  refine A_lstore_n 0 (L' := [some (av_L x10), none]) d_JLong_bitCount_33 rfl (Nat.le_of_ble_eq_true rfl) rfl ?_
  refine A_lload_n 0 d_JLong_bitCount_34 rfl rfl ?_
  refine A_lload_n 0 d_JLong_bitCount_35 rfl rfl ?_
  refine A_bipush d_JLong_bitCount_36 rfl ?_
  refine A_pc (pc' := 38) rfl ?_
  refine A_lushr d_JLong_bitCount_38 ?_
  refine A_nrL (fun x11 ex11 _ _ => ?_)
  refine A_laddw d_JLong_bitCount_39 (fun x12 _ _ _ => ?_)
  refine A_lstore_n 0 (L' := [some (av_L x12), none]) d_JLong_bitCount_40 rfl (Nat.le_of_ble_eq_true rfl) rfl ?_
  refine A_lload_n 0 d_JLong_bitCount_41 rfl rfl ?_
  refine A_lload_n 0 d_JLong_bitCount_42 rfl rfl ?_
  refine A_bipush d_JLong_bitCount_43 rfl ?_
  refine A_pc (pc' := 45) rfl ?_
  refine A_lushr d_JLong_bitCount_45 ?_
  refine A_nrL (fun x13 ex13 _ _ => ?_)
  refine A_laddw d_JLong_bitCount_46 (fun x14 _ _ _ => ?_)
  refine A_lstore_n 0 (L' := [some (av_L x14), none]) d_JLong_bitCount_47 rfl (Nat.le_of_ble_eq_true rfl) rfl ?_
  refine A_lload_n 0 d_JLong_bitCount_48 rfl rfl ?_
  refine A_lload_n 0 d_JLong_bitCount_49 rfl rfl ?_
  refine A_bipush d_JLong_bitCount_50 rfl ?_
  refine A_pc (pc' := 52) rfl ?_
  refine A_lushr d_JLong_bitCount_52 ?_
  refine A_nrL (fun x15 ex15 _ _ => ?_)
  refine A_laddw d_JLong_bitCount_53 (fun x16 _ _ _ => ?_)
  refine A_lstore_n 0 (L' := [some (av_L x16), none]) d_JLong_bitCount_54 rfl (Nat.le_of_ble_eq_true rfl) rfl ?_
  refine A_lload_n 0 d_JLong_bitCount_55 rfl rfl ?_
  refine A_l2iw d_JLong_bitCount_56 (fun x17 _ _ _ => ?_)
  refine A_bipush d_JLong_bitCount_57 rfl ?_
  refine A_pc (pc' := 59) rfl ?_
  refine A_iand d_JLong_bitCount_59 ?_
  refine A_nrI (fun x18 ex18 _ _ => ?_)
  have bx18 := and_r (m := 127) 7 ex18 (by decide) (by decide) (by decide)
  exact A_iret d_JLong_bitCount_60 (by decide) rfl ⟨_, rfl, ⟨by omega, by omega⟩, rfl⟩
theorem s_JInteger_bitCount {G : cx_T} {h : ah_T} {a0 : Int}  : con G 0 0 0 m_JInteger_bitCount [av_I a0] h (fun r h' => ∃ z, r = some (av_I z) ∧ ((-2147483648) ≤ z ∧ z ≤ 2147483647) ∧ h = h') := by
  refine con_of (L := [some (av_I a0)]) (by decide +kernel) (Nat.le_of_ble_eq_true rfl) rfl ?_
  refine A_locI 0 rfl (fun ra => ?_)
  obtain ⟨_, _⟩ := ra
  refine A_iload_n 0 d_JInteger_bitCount_0 rfl rfl ?_
  refine A_iload_n 0 d_JInteger_bitCount_1 rfl rfl ?_
  refine A_iconst d_JInteger_bitCount_2 rfl ?_
  refine A_iushr d_JInteger_bitCount_3 ?_
  refine A_nrI (fun x1 ex1 _ _ => ?_)
  refine A_ldcw (z := 1431655765) d_JInteger_bitCount_4 cst_JInteger_265 rfl ?_
  refine A_pc (pc' := 7) rfl ?_
  refine A_iand d_JInteger_bitCount_7 ?_
  refine A_nrI (fun x2 ex2 _ _ => ?_)
  refine A_isubw d_JInteger_bitCount_8 (fun x3 _ _ _ => ?_)
  refine A_istore_n 0 (L' := [some (av_I x3)]) d_JInteger_bitCount_9 rfl (Nat.le_of_ble_eq_true rfl) rfl ?_
  refine A_iload_n 0 d_JInteger_bitCount_10 rfl rfl ?_
  refine A_ldcw (z := 858993459) d_JInteger_bitCount_11 cst_JInteger_266 rfl ?_
  refine A_iand d_JInteger_bitCount_14 ?_
  refine A_nrI (fun x4 ex4 _ _ => ?_)
  refine A_pc (pc' := 15) rfl ?_
  refine A_iload_n 0 d_JInteger_bitCount_15 rfl rfl ?_
  refine A_iconst d_JInteger_bitCount_16 rfl ?_
  refine A_iushr d_JInteger_bitCount_17 ?_
  refine A_nrI (fun x5 ex5 _ _ => ?_)
  refine A_ldcw (z := 858993459) d_JInteger_bitCount_18 cst_JInteger_266 rfl ?_
  refine A_iand d_JInteger_bitCount_21 ?_
  refine A_nrI (fun x6 ex6 _ _ => ?_)
  refine A_iaddw d_JInteger_bitCount_22 (fun x7 _ _ _ => ?_)
  refine A_pc (pc' := 23) rfl ?_
  refine A_istore_n 0 (L' := [some (av_I x7)]) d_JInteger_bitCount_23 rfl (Nat.le_of_ble_eq_true rfl) rfl ?_
  refine A_iload_n 0 d_JInteger_bitCount_24 rfl rfl ?_
  refine A_iload_n 0 d_JInteger_bitCount_25 rfl rfl ?_
  refine A_iconst d_JInteger_bitCount_26 rfl ?_
  refine A_iushr d_JInteger_bitCount_27 ?_
  refine A_nrI (fun x8 ex8 _ _ => ?_)
  refine A_iaddw d_JInteger_bitCount_28 (fun x9 _ _ _ => ?_)
  refine A_pc (pc' := 29) rfl ?_
  refine A_ldcw (z := 252645135) d_JInteger_bitCount_29 cst_JInteger_267 rfl ?_
  refine A_iand d_JInteger_bitCount_32 ?_
  refine A_nrI (fun x10 ex10 _ _ => ?_)
  refine A_istore_n 0 (L' := [some (av_I x10)]) d_JInteger_bitCount_33 rfl (Nat.le_of_ble_eq_true rfl) rfl ?_
  refine A_iload_n 0 d_JInteger_bitCount_34 rfl rfl ?_
  refine A_iload_n 0 d_JInteger_bitCount_35 rfl rfl ?_
  refine A_bipush d_JInteger_bitCount_36 rfl ?_
  refine A_pc (pc' := 38) rfl ?_
  refine A_iushr d_JInteger_bitCount_38 ?_
  refine A_nrI (fun x11 ex11 _ _ => ?_)
  refine A_iaddw d_JInteger_bitCount_39 (fun x12 _ _ _ => ?_)
  refine A_istore_n 0 (L' := [some (av_I x12)]) d_JInteger_bitCount_40 rfl (Nat.le_of_ble_eq_true rfl) rfl ?_
  refine A_iload_n 0 d_JInteger_bitCount_41 rfl rfl ?_
  refine A_iload_n 0 d_JInteger_bitCount_42 rfl rfl ?_
  refine A_bipush d_JInteger_bitCount_43 rfl ?_
  refine A_pc (pc' := 45) rfl ?_
  refine A_iushr d_JInteger_bitCount_45 ?_
  refine A_nrI (fun x13 ex13 _ _ => ?_)
  refine A_iaddw d_JInteger_bitCount_46 (fun x14 _ _ _ => ?_)
  refine A_istore_n 0 (L' := [some (av_I x14)]) d_JInteger_bitCount_47 rfl (Nat.le_of_ble_eq_true rfl) rfl ?_
  refine A_iload_n 0 d_JInteger_bitCount_48 rfl rfl ?_
  refine A_bipush d_JInteger_bitCount_49 rfl ?_
  refine A_iand d_JInteger_bitCount_51 ?_
  refine A_nrI (fun x15 ex15 _ _ => ?_)
  have bx15 := and_r (m := 63) 6 ex15 (by decide) (by decide) (by decide)
  refine A_pc (pc' := 52) rfl ?_
  exact A_iret d_JInteger_bitCount_52 (by decide) rfl ⟨_, rfl, ⟨by omega, by omega⟩, rfl⟩
theorem s_JLong_compare {G : cx_T} {h : ah_T} {a0 : Int} {a1 : Int}  : con G 0 0 0 m_JLong_compare [av_L a0, av_L a1] h (fun r h' => ∃ z, r = some (av_I z) ∧ ((-1) ≤ z ∧ z ≤ 1) ∧ (((a0 < a1 → z = -1) ∧ (a0 = a1 → z = 0) ∧ (a1 < a0 → z = 1))) ∧ h = h') := by
  refine con_of (L := [some (av_L a0), none, some (av_L a1), none]) (by decide +kernel) (Nat.le_of_ble_eq_true rfl) rfl ?_
  refine A_locL 0 rfl (fun ra => ?_)
  obtain ⟨_, _⟩ := ra
  refine A_locL 2 rfl (fun ra => ?_)
  obtain ⟨_, _⟩ := ra
  refine A_lload_n 0 d_JLong_compare_0 rfl rfl ?_
  refine A_lload_n 2 d_JLong_compare_1 rfl rfl ?_
  refine A_lcmpn d_JLong_compare_2 (fun x1 lx1 ex1 gx1 _ _ => ?_)
  refine A_if_ge (tgt := 10) d_JLong_compare_3 (by decide) (fun c2 => ?_) (fun c2 => ?_)
  · have mc2 : (a0 - a1) ≥ 0 := by omega
    refine A_lload_n 0 d_JLong_compare_10 rfl rfl ?_
    refine A_lload_n 2 d_JLong_compare_11 rfl rfl ?_
    refine A_lcmpn d_JLong_compare_12 (fun x3 lx3 ex3 gx3 _ _ => ?_)
    refine A_if_ne (tgt := 20) d_JLong_compare_13 (by decide) (fun c4 => ?_) (fun c4 => ?_)
    · have mc4 : (a0 - a1) ≠ 0 := by omega
      refine A_iconst d_JLong_compare_20 rfl ?_
      exact A_iret d_JLong_compare_21 (by decide) rfl ⟨_, rfl, ⟨by omega, by omega⟩, ⟨fun _ => by omega, fun _ => by omega, fun _ => by omega⟩, rfl⟩
    · have mc4 : (a0 - a1) = 0 := by omega
      refine A_iconst d_JLong_compare_16 rfl ?_
      refine A_goto (tgt := 21) d_JLong_compare_17 (by decide) ?_
      exact A_iret d_JLong_compare_21 (by decide) rfl ⟨_, rfl, ⟨by omega, by omega⟩, ⟨fun _ => by omega, fun _ => by omega, fun _ => by omega⟩, rfl⟩
  · have mc2 : (a0 - a1) < 0 := by omega
    refine A_iconst d_JLong_compare_6 rfl ?_
    refine A_goto (tgt := 21) d_JLong_compare_7 (by decide) ?_
    exact A_iret d_JLong_compare_21 (by decide) rfl ⟨_, rfl, ⟨by omega, by omega⟩, ⟨fun _ => by omega, fun _ => by omega, fun _ => by omega⟩, rfl⟩

/-! ===== the classes' tables ===== -/
theorem gw_ws {ws : List Cond} (ps : List Nat) (hp : ws = ps.filterMap (fun i => lw_tbl[i]?)) (h : ws.all goodWord = true) : ∀ w ∈ ws, w ∈ gw := by
  intro w hw
  have h1 := List.all_eq_true.mp h w hw
  rw [hp] at hw
  obtain ⟨i, -, hi⟩ := List.mem_filterMap.mp hw
  exact gw_in i hi h1
theorem sx_n {h h' : ah_T} {kd n q : Nat} (e : h' = st_n h kd n) (hq : h.1.length = q) : h'.1[q]? = some (kd, n) := by subst e; exact st_n_last h kd n q hq
set_option maxRecDepth 20000 in
theorem T_ok_0 : cl_F 0 (RX0, TX0, 4) := ⟨gw_ws [466, 468, 470, 472] (by decide +kernel) (by decide +kernel), by decide +kernel, nmX0, gwi_457, gwi_141, by decide +kernel⟩
set_option maxRecDepth 20000 in
theorem T_ok_1 : cl_F 1 (RX1, TX1, 3) := ⟨gw_ws [449, 451, 453] (by decide +kernel) (by decide +kernel), by decide +kernel, nmX1, gwi_441, gwi_140, by decide +kernel⟩
set_option maxRecDepth 20000 in
theorem T_ok_2 : cl_F 2 (RX2, TX2, 8) := ⟨gw_ws [489, 491, 493, 495, 497, 499, 501, 503] (by decide +kernel) (by decide +kernel), by decide +kernel, nmX2, gwi_476, gwi_142, by decide +kernel⟩
set_option maxRecDepth 20000 in
theorem T_ok_3 : cl_F 3 (RX3, TX3, 8) := ⟨gw_ws [577, 579, 581, 583, 585, 587, 589, 591] (by decide +kernel) (by decide +kernel), by decide +kernel, nmX3, gwi_563, gwi_145, by decide +kernel⟩
set_option maxRecDepth 20000 in
theorem T_ok_4 : cl_F 4 (RX4, TX4, 12) := ⟨gw_ws [240, 242, 244, 246, 248, 250, 252, 254, 256, 258, 260, 262] (by decide +kernel) (by decide +kernel), by decide +kernel, nmX4, gwi_222, gwi_137, by decide +kernel⟩
set_option maxRecDepth 20000 in
theorem T_ok_5 : cl_F 5 (RX5, TX5, 8) := ⟨gw_ws [421, 423, 425, 427, 429, 431, 433, 435] (by decide +kernel) (by decide +kernel), by decide +kernel, nmX5, gwi_164, gwi_135, by decide +kernel⟩
set_option maxRecDepth 20000 in
theorem T_ok_6 : cl_F 6 (RX6, TX6, 13) := ⟨gw_ws [385, 387, 389, 391, 393, 395, 397, 399, 401, 403, 405, 407, 409] (by decide +kernel) (by decide +kernel), by decide +kernel, nmX6, gwi_266, gwi_138, by decide +kernel⟩
set_option maxRecDepth 20000 in
theorem T_ok_7 : cl_F 7 (RX7, TX7, 8) := ⟨gw_ws [520, 522, 524, 526, 528, 530, 532, 534] (by decide +kernel) (by decide +kernel), by decide +kernel, nmX7, gwi_507, gwi_143, by decide +kernel⟩
set_option maxRecDepth 20000 in
theorem T_ok_8 : cl_F 8 (RX8, TX8, 13) := ⟨gw_ws [192, 194, 196, 198, 200, 202, 204, 206, 208, 210, 212, 214, 216] (by decide +kernel) (by decide +kernel), by decide +kernel, nmX8, gwi_170, gwi_136, by decide +kernel⟩
set_option maxRecDepth 20000 in
theorem T_ok_9 : cl_F 9 (RX9, TX9, 6) := ⟨gw_ws [549, 551, 553, 555, 557, 559] (by decide +kernel) (by decide +kernel), by decide +kernel, nmX9, gwi_538, gwi_144, by decide +kernel⟩
set_option maxRecDepth 20000 in
theorem T_ok_10 : cl_F 10 (RX10, TX10, 17) := ⟨gw_ws [314, 316, 318, 320, 322, 324, 326, 328, 330, 332, 334, 336, 338, 340, 342, 344, 346] (by decide +kernel) (by decide +kernel), by decide +kernel, nmX10, gwi_273, gwi_139, by decide +kernel⟩
set_option maxRecDepth 20000 in
theorem T_ok_11 : cl_F 11 (RX11, TX11, 11) := ⟨gw_ws [605, 607, 609, 611, 613, 615, 617, 619, 621, 623, 625] (by decide +kernel) (by decide +kernel), by decide +kernel, nmX11, gwi_156, gwi_134, by decide +kernel⟩
set_option maxRecDepth 20000 in
theorem T_ok_12 : cl_F 12 (RX12, TX12, 111) := ⟨gw_ws [1593, 1595, 1597, 1599, 1601, 1603, 1605, 1607, 1609, 1611, 1613, 1615, 1617, 1619, 1621, 1623, 1625, 1627, 1629, 1631, 1633, 1635, 1637, 1639, 1641, 1643, 1645, 1647, 1649, 1651, 1653, 1655, 1657, 1659, 1661, 1663, 1665, 1667, 1669, 1671, 1673, 1675, 1677, 1679, 1681, 1683, 1685, 1687, 1689, 1691, 1693, 1695, 1697, 1699, 1701, 1703, 1705, 1707, 1709, 1711, 1713, 1715, 1717, 1719, 1721, 1723, 1725, 1727, 1729, 1731, 1733, 1735, 1737, 1739, 1741, 1743, 1745, 1747, 1749, 1751, 1753, 1755, 1757, 1759, 1761, 1763, 1765, 1767, 1769, 1771, 1773, 1775, 1777, 1779, 1781, 1783, 1785, 1787, 1789, 1791, 1793, 1795, 1797, 1799, 1801, 1803, 1805, 1807, 1809, 1811, 1813] (by decide +kernel) (by decide +kernel), by decide +kernel, nmX12, gwi_1477, gwi_146, by decide +kernel⟩
theorem T_ok : tbl_OK := by
  intro c q hq
  match c, hq with
  | 0, hq => cases hq; exact T_ok_0
  | 1, hq => cases hq; exact T_ok_1
  | 2, hq => cases hq; exact T_ok_2
  | 3, hq => cases hq; exact T_ok_3
  | 4, hq => cases hq; exact T_ok_4
  | 5, hq => cases hq; exact T_ok_5
  | 6, hq => cases hq; exact T_ok_6
  | 7, hq => cases hq; exact T_ok_7
  | 8, hq => cases hq; exact T_ok_8
  | 9, hq => cases hq; exact T_ok_9
  | 10, hq => cases hq; exact T_ok_10
  | 11, hq => cases hq; exact T_ok_11
  | 12, hq => cases hq; exact T_ok_12
  | c + 13, hq => simp [classes] at hq
def tk_b : FieldType → Bool
  | .int => true
  | .boolean => true
  | .long => true
  | .object _ => true
  | .array _ => true
  | _ => false
theorem tk_ok {ty : FieldType} (h : tk_b ty = true) : ty = .int ∨ ty = .boolean ∨ ty = .long ∨ (∃ n, ty = .object n) ∨ ∃ n, ty = .array n := by
  cases ty <;> first | (simp [tk_b] at h; done) | simp

theorem T_k : tbl_K := by
  intro c q hq k hk
  refine tk_ok ?_
  match c, hq with
  | 0, hq => cases hq; exact (by decide +kernel : ∀ k, k < 4 → tk_b (f_ty 0 k) = true) k hk
  | 1, hq => cases hq; exact (by decide +kernel : ∀ k, k < 3 → tk_b (f_ty 1 k) = true) k hk
  | 2, hq => cases hq; exact (by decide +kernel : ∀ k, k < 8 → tk_b (f_ty 2 k) = true) k hk
  | 3, hq => cases hq; exact (by decide +kernel : ∀ k, k < 8 → tk_b (f_ty 3 k) = true) k hk
  | 4, hq => cases hq; exact (by decide +kernel : ∀ k, k < 12 → tk_b (f_ty 4 k) = true) k hk
  | 5, hq => cases hq; exact (by decide +kernel : ∀ k, k < 8 → tk_b (f_ty 5 k) = true) k hk
  | 6, hq => cases hq; exact (by decide +kernel : ∀ k, k < 13 → tk_b (f_ty 6 k) = true) k hk
  | 7, hq => cases hq; exact (by decide +kernel : ∀ k, k < 8 → tk_b (f_ty 7 k) = true) k hk
  | 8, hq => cases hq; exact (by decide +kernel : ∀ k, k < 13 → tk_b (f_ty 8 k) = true) k hk
  | 9, hq => cases hq; exact (by decide +kernel : ∀ k, k < 6 → tk_b (f_ty 9 k) = true) k hk
  | 10, hq => cases hq; exact (by decide +kernel : ∀ k, k < 17 → tk_b (f_ty 10 k) = true) k hk
  | 11, hq => cases hq; exact (by decide +kernel : ∀ k, k < 11 → tk_b (f_ty 11 k) = true) k hk
  | 12, hq => cases hq; exact (by decide +kernel : ∀ k, k < 111 → tk_b (f_ty 12 k) = true) k hk
  | c + 13, hq => simp [classes] at hq
