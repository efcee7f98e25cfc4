/-! ===== java.lang.Math's own rows ===== -/
section AWM
variable {G : cx_T} {R : Room} {M : mr_T} {cu su pc : Nat} {L : List (Option av_T)} {st : List av_T} {h : ah_T} {Q : Option av_T → ah_T → Prop}
theorem A_mmin {idx : Nat} {x y z : Int} (hd : decode M.2.1 pc = .ok (.invokestatic idx, 3)) (hl : Cond.methodLink M.1.cls idx Lib.Math.min.name ∈ gw) (hm : Cond.static Lib.Math.min.name ∈ gw ∧ Cond.initialized "java/lang/Math" ∈ gw ∧ Cond.code Lib.Math.min.name Lib.Math.min.code 2 (some .int) ∈ gw) (hR : 1 ≤ R.frames ∧ 21 ≤ R.locals) (hf : cu ≤ R.cells ∧ su ≤ R.slots) (hst : st.length ≤ 4) (hz : (if y < x then y else x) = z) (kk : aw G R M cu su (pc + 3) L (av_I z :: st) h Q) : aw G R M cu su pc L (av_I y :: av_I x :: st) h Q := by
  intro p e s m args below meth cd H locs ls S hH hO hS hb hL hn
  have hx := nv_h (nv_t hn)
  have hy := nv_h hn
  have hsum := cat_sum G hst
  have hk := kk p e s m args below meth cd H locs ls S hH hO hS hb hL (nv_c (by rw [← hz]; split <;> assumption) (nv_t (nv_t hn)))
  refine va_mmin S.1 S.2.1 (by rw [hL.2.1, S.2.2.1]) S.2.2.2.1 (S.2.2.2.2.1 _ hl) (S.2.2.2.2.1 _ hm.1) (S.2.2.2.2.1 _ hm.2.1) (S.2.2.2.2.1 _ hm.2.2) hR.1 (by omega) hf.1 hf.2 hd ?_
  rw [← hz] at hk
  by_cases hc : y < x
  · rw [if_pos hc] at hk
    rw [if_pos ((i32_lt hy hx).mpr hc)]
    exact hk
  · rw [if_neg hc] at hk
    rw [if_neg (fun q => hc ((i32_lt hy hx).mp q))]
    exact hk
theorem A_mmax {idx : Nat} {x y z : Int} (hd : decode M.2.1 pc = .ok (.invokestatic idx, 3)) (hl : Cond.methodLink M.1.cls idx Lib.Math.max.name ∈ gw) (hm : Cond.static Lib.Math.max.name ∈ gw ∧ Cond.initialized "java/lang/Math" ∈ gw ∧ Cond.code Lib.Math.max.name Lib.Math.max.code 2 (some .int) ∈ gw) (hR : 1 ≤ R.frames ∧ 21 ≤ R.locals) (hf : cu ≤ R.cells ∧ su ≤ R.slots) (hst : st.length ≤ 4) (hz : (if x < y then y else x) = z) (kk : aw G R M cu su (pc + 3) L (av_I z :: st) h Q) : aw G R M cu su pc L (av_I y :: av_I x :: st) h Q := by
  intro p e s m args below meth cd H locs ls S hH hO hS hb hL hn
  have hx := nv_h (nv_t hn)
  have hy := nv_h hn
  have hsum := cat_sum G hst
  have hk := kk p e s m args below meth cd H locs ls S hH hO hS hb hL (nv_c (by rw [← hz]; split <;> assumption) (nv_t (nv_t hn)))
  refine va_mmax S.1 S.2.1 (by rw [hL.2.1, S.2.2.1]) S.2.2.2.1 (S.2.2.2.2.1 _ hl) (S.2.2.2.2.1 _ hm.1) (S.2.2.2.2.1 _ hm.2.1) (S.2.2.2.2.1 _ hm.2.2) hR.1 (by omega) hf.1 hf.2 hd ?_
  rw [← hz] at hk
  by_cases hc : x < y
  · rw [if_pos hc] at hk
    rw [if_pos ((i32_lt hx hy).mpr hc)]
    exact hk
  · rw [if_neg hc] at hk
    rw [if_neg (fun q => hc ((i32_lt hx hy).mp q))]
    exact hk
theorem A_mabs {idx : Nat} {x z : Int} (hd : decode M.2.1 pc = .ok (.invokestatic idx, 3)) (hl : Cond.methodLink M.1.cls idx Lib.Math.abs.name ∈ gw) (hm : Cond.static Lib.Math.abs.name ∈ gw ∧ Cond.initialized "java/lang/Math" ∈ gw ∧ Cond.code Lib.Math.abs.name Lib.Math.abs.code 1 (some .int) ∈ gw) (hR : 1 ≤ R.frames ∧ 21 ≤ R.locals) (hf : cu ≤ R.cells ∧ su ≤ R.slots) (hst : st.length ≤ 4) (hz : (if 0 ≤ x then x else w32 (0 - x)) = z) (kk : aw G R M cu su (pc + 3) L (av_I z :: st) h Q) : aw G R M cu su pc L (av_I x :: st) h Q := by
  intro p e s m args below meth cd H locs ls S hH hO hS hb hL hn
  have hx := nv_h hn
  have hsum := cat_sum G hst
  have hk := kk p e s m args below meth cd H locs ls S hH hO hS hb hL (nv_c (by rw [← hz]; split; exact hx; exact w32_in _) (nv_t hn))
  refine va_mabs S.1 S.2.1 (by rw [hL.2.1, S.2.2.1]) S.2.2.2.1 (S.2.2.2.2.1 _ hl) (S.2.2.2.2.1 _ hm.1) (S.2.2.2.2.1 _ hm.2.1) (S.2.2.2.2.1 _ hm.2.2) hR.1 (by omega) hf.1 hf.2 hd ?_
  rw [← hz] at hk
  by_cases hc : 0 ≤ x
  · rw [if_pos hc] at hk
    rw [if_pos (show (0 : Int32) ≤ Int32.ofInt x from (i32_le i32_0 hx).mpr hc)]
    exact hk
  · rw [if_neg hc] at hk
    rw [if_neg (show ¬ (0 : Int32) ≤ Int32.ofInt x from fun q => hc ((i32_le i32_0 hx).mp q))]
    have h2 := w32_sub 0 x
    have h3 : (cv G (av_I (w32 (0 - x)))) = .int (0 - Int32.ofInt x) := by show Value.int (Int32.ofInt _) = _; rw [h2]; rfl
    rw [← h3]
    exact hk
end AWM
