/-! ===== second, the class: the row of a number ===== -/
section
variable {G : cx_T} {s : Nat} {h : ah_T} {low : Int} {sp n : Nat} {R : Int} {ln : Nat → Int} {l : List Nat}
theorem j_rowAt {k r0 : Nat} (hb0 : hb s h) (B : BLs l h) (hs : Srt l) (hm : ∀ r, r ∈ l → r < 100000) (hk : l[k]? = some r0) (hk2 : k < 100000) : con G 1 0 0 m_Seconds_rowAt [av_R (some 158), av_I (k : Int)] h (fun r h' => r = some (av_I (r0 : Int)) ∧ hb s h' ∧ h' = h) := by
  have r0l := List.mem_of_getElem? hk
  have r0b := hm r0 r0l
  have c0 := cN_L hs B.2
  have e0 : cN (h.2.2.1 159) r0 = k := by rw [c0 r0 (by omega)]; exact cL_k l k r0 hs hk
  have e1 : cN (h.2.2.1 159) (r0 + 1) = k + 1 := by
    rw [cN, e0, if_pos ((B.2 r0 (by omega)).mpr r0l)]
  have big : ∀ m, r0 + 1 ≤ m → k + 1 ≤ cN (h.2.2.1 159) m := fun m hm' => by
    have := cN_m (W := h.2.2.1 159) m hm'
    omega
  have l49 : ∀ (v2 v3 v4 : Int) (hh : ah_T), hb s hh → (hh = h ∧ ∃ at_ bit : Nat, v3 = (at_ : Int) ∧ v4 = (bit : Int) ∧ at_ < 1563 ∧ bit ≤ 64 ∧ v2 = ((cN (h.2.2.1 159) (64 * at_ + bit) : Nat) : Int) ∧ cN (h.2.2.1 159) (64 * at_ + bit) ≤ k ∧ k < cN (h.2.2.1 159) (64 * at_ + 64)) → aw G (rm_R 1 0 0) m_Seconds_rowAt 0 0 49 [some (av_R (some 158)), some (av_I (k : Int)), some (av_I v2), some (av_I v3), some (av_I v4)] [] hh (fun r h' => r = some (av_I (r0 : Int)) ∧ hb s h' ∧ h' = h) := by
    refine lp_Seconds_rowAt_49 _ (fun _ _ v4 _ => (100 - v4).toNat) ?_
    rintro v2 v3 v4 hh hb1 ⟨ehh, at_, bit, rfl, rfl, a1, a2, rfl, a3, a4⟩
    subst ehh
    unfold B_Seconds_rowAt_49 B_Seconds_rowAt_97
    refine ⟨fun q => ?_, fun q => ⟨fun q2 => by omega, fun q2 => ⟨by omega, fun x3 e3 _ _ x5 e5 _ _ x6 e6 _ _ => ?_⟩⟩⟩
    · have : bit = 64 := by omega
      subst this
      omega
    rw [tn_c] at e3
    have hb64 : bit < 64 := by omega
    have u5 : uL x5 = uL (hh.2.2.1 159 at_) / 2 ^ bit := by
      rw [← e3]
      exact (congrArg uL e5).trans (uL_shr hb64)
    have u6 : uL x6 = uL (hh.2.2.1 159 at_) / 2 ^ bit % 2 := by
      rw [← u5]
      refine (congrArg uL e6).trans ((uL_and (m := 1) (by decide)).trans ?_)
      exact Nat.and_two_pow_sub_one_eq_mod _ 1
    have sx : tb64 (hh.2.2.1 159 ((64 * at_ + bit) / 64)) ((64 * at_ + bit) % 64) = decide (uL (hh.2.2.1 159 at_) / 2 ^ bit % 2 = 1) := by
      rw [show (64 * at_ + bit) / 64 = at_ by omega, show (64 * at_ + bit) % 64 = bit by omega, tb_u, Nat.testBit_eq_decide_div_mod_eq]
    have x6e := uL_e x6
    have st : cN (hh.2.2.1 159) (64 * at_ + (bit + 1)) = cN (hh.2.2.1 159) (64 * at_ + bit) + (if tb64 (hh.2.2.1 159 ((64 * at_ + bit) / 64)) ((64 * at_ + bit) % 64) = true then 1 else 0) := rfl
    refine ⟨fun z => ?_, fun z => ⟨fun w => ⟨⟨by omega, by omega⟩, ⟨by omega, by omega⟩, ?_, hb1, rfl⟩, fun w => ?_⟩⟩
    · have ns : ¬ tb64 (hh.2.2.1 159 ((64 * at_ + bit) / 64)) ((64 * at_ + bit) % 64) = true := by
        rw [sx, decide_eq_true_eq]
        omega
      rw [if_neg ns] at st
      exact ⟨⟨by omega, by omega⟩, ⟨rfl, at_, bit + 1, rfl, by omega, a1, by omega, by omega, by omega, a4⟩, by omega⟩
    · have ys : tb64 (hh.2.2.1 159 ((64 * at_ + bit) / 64)) ((64 * at_ + bit) % 64) = true := by
        rw [sx, decide_eq_true_eq]
        by_cases y : uL (hh.2.2.1 159 at_) / 2 ^ bit % 2 = 1
        · exact y
        · exfalso
          have : uL x6 = 0 := by omega
          omega
      rw [if_pos ys] at st
      have eq : 64 * at_ + bit = r0 := by
        rcases Nat.lt_trichotomy (64 * at_ + bit) r0 with c | c | c
        · have := cN_m (W := hh.2.2.1 159) (a := 64 * at_ + (bit + 1)) r0 (by omega)
          omega
        · exact c
        · have := big (64 * at_ + bit) (by omega)
          omega
      rw [show 64 * (at_ : Int) + (bit : Int) = (r0 : Int) by omega]
    · have ys : tb64 (hh.2.2.1 159 ((64 * at_ + bit) / 64)) ((64 * at_ + bit) % 64) = true := by
        rw [sx, decide_eq_true_eq]
        by_cases y : uL (hh.2.2.1 159 at_) / 2 ^ bit % 2 = 1
        · exact y
        · exfalso
          have : uL x6 = 0 := by omega
          omega
      rw [if_pos ys] at st
      exact ⟨⟨by omega, by omega⟩, ⟨by omega, by omega⟩, ⟨rfl, at_, bit + 1, rfl, by omega, a1, by omega, by omega, by omega, a4⟩, by omega⟩
  refine c_Seconds_rowAt (X4 := fun v2 v3 hh => hh = h ∧ ∃ at_ : Nat, v3 = (at_ : Int) ∧ at_ ≤ 1563 ∧ v2 = ((cN (h.2.2.1 159) (64 * at_) : Nat) : Int) ∧ cN (h.2.2.1 159) (64 * at_) ≤ k) ?_ hb0 (fun _ => ?_)
  · refine lp_Seconds_rowAt_4 (X49 := fun v2 v3 v4 hh => hh = h ∧ ∃ at_ bit : Nat, v3 = (at_ : Int) ∧ v4 = (bit : Int) ∧ at_ < 1563 ∧ bit ≤ 64 ∧ v2 = ((cN (h.2.2.1 159) (64 * at_ + bit) : Nat) : Int) ∧ cN (h.2.2.1 159) (64 * at_ + bit) ≤ k ∧ k < cN (h.2.2.1 159) (64 * at_ + 64)) l49 _ (fun _ v3 _ => (2000 - v3).toNat) ?_
    rintro v2 v3 hh hb1 ⟨ehh, at_, rfl, a1, rfl, a2⟩
    subst ehh
    unfold B_Seconds_rowAt_4 B_Seconds_rowAt_46
    refine ⟨fun q => ?_, fun q => ⟨by omega, fun x3 e3 _ _ => ?_⟩⟩
    · have := big (64 * at_) (by omega)
      omega
    rw [tn_c] at e3
    have cw := cN_w (W := hh.2.2.1 159) (a := at_) 64 (Nat.le_refl _)
    rw [e3]
    refine con_mono (t_bitCountL hb1) ?_
    rintro r h2 ⟨rfl, hb2, rfl⟩
    have cb64 : ∀ U j, cb U j ≤ j := fun U j => by
      induction j with
      | zero => exact Nat.le_refl _
      | succ j ih =>
        rw [cb]
        split <;> omega
    have c6 := cb64 (uL (h2.2.2.1 159 at_)) 64
    refine ⟨_, rfl, hb2, ⟨by omega, by omega⟩, fun q2 => ⟨rfl, at_, 0, rfl, rfl, by omega, by omega, rfl, a2, by omega⟩, fun q2 x10 e10 _ _ => ?_⟩
    rw [tn_c] at e10
    rw [e10]
    refine con_mono (t_bitCountL hb2) ?_
    rintro r h3 ⟨rfl, hb3, rfl⟩
    exact ⟨_, rfl, hb3, ⟨by omega, by omega⟩, ⟨by omega, by omega⟩, ⟨rfl, at_ + 1, by omega, by omega, by rw [show 64 * (at_ + 1) = 64 * at_ + 64 by omega, cw]; omega, by rw [show 64 * (at_ + 1) = 64 * at_ + 64 by omega, cw]; omega⟩, by omega⟩
  · unfold B_Seconds_rowAt_0
    exact ⟨rfl, 0, rfl, Nat.zero_le _, rfl, Nat.zero_le _⟩
/-- key i of the k-th row -/
def secv (l : List Nat) (low : Int) (sp n : Nat) (k i : Int) : Int := if 0 ≤ k ∧ k < (l.length : Int) ∧ 0 ≤ i ∧ i < (n : Int) then low + ((l.getD k.toNat 0 / sp ^ (n - 1 - i.toNat) % sp : Nat) : Int) else -1
theorem t_PM_second {k i : Int} (hb0 : hb s h) (H : PRc low sp n R ln h) (hg : PRg low sp n ln) (B : BLs l h) (hs : Srt l) (hm : ∀ r, r ∈ l → r < 100000) (hl : l.length ≤ 100000) : con G 3 0 0 m_PM_second [av_R (some 0), av_I k, av_I i] h (fun r h' => r = some (av_I (secv l low sp n k i)) ∧ hb s h' ∧ h' = h) := by
  obtain ⟨⟨g1, g2⟩, g3, ⟨g4, g5⟩, g6⟩ := id hg
  refine c_PM_second hb0 (fun _ _ => ?_)
  unfold B_PM_second_0
  have no : ¬ (0 ≤ k ∧ k < (l.length : Int) ∧ 0 ≤ i ∧ i < (n : Int)) → some (av_I (-1)) = some (av_I (secv l low sp n k i)) ∧ hb s h ∧ h = h := fun q => ⟨by unfold secv; rw [if_neg q], hb0, rfl⟩
  have fin : con G 2 0 0 m_Seconds_keyIn [av_R (some 158), av_I k, av_I i] h (fun r h' => r = some (av_I (secv l low sp n k i)) ∧ hb s h' ∧ h' = h) := by
    by_cases ok : 0 ≤ k ∧ k < (l.length : Int) ∧ 0 ≤ i ∧ i < (n : Int)
    rotate_left
    · refine c_Seconds_keyIn (X48 := fun _ _ _ => False) (fun _ _ _ _ x => x.elim) hb0 (fun _ _ => ?_)
      unfold B_Seconds_keyIn_0 B_Seconds_keyIn_32
      refine ⟨fun _ => no ok, fun q1 x1 e1 _ _ => ?_⟩
      have ex := e1.trans B.1
      subst ex
      refine ⟨fun _ => no ok, fun q2 => ⟨fun _ => no ok, fun q3 x2 e2 _ _ => ?_⟩⟩
      have ex := e2.trans H.1.2.2.1
      subst ex
      exact ⟨fun _ => no ok, fun q4 => absurd ⟨by omega, by omega, by omega, by omega⟩ ok⟩
    obtain ⟨k', rfl⟩ : ∃ a : Nat, k = a := ⟨k.toNat, by omega⟩
    obtain ⟨i', rfl⟩ : ∃ a : Nat, i = a := ⟨i.toNat, by omega⟩
    obtain ⟨o1, o2, o3, o4⟩ := ok
    obtain ⟨r0, hr0⟩ : ∃ r0, l[k']? = some r0 := ⟨_, List.getElem?_eq_getElem (show k' < l.length by omega)⟩
    have ev : secv l low sp n (k' : Int) (i' : Int) = low + ((r0 / sp ^ (n - 1 - i') % sp : Nat) : Int) := by
      have okk : 0 ≤ (k' : Int) ∧ (k' : Int) < (l.length : Int) ∧ 0 ≤ (i' : Int) ∧ (i' : Int) < (n : Int) := ⟨by omega, o2, by omega, o4⟩
      have eg : l.getD k' 0 = r0 := by rw [List.getD_eq_getElem?_getD, hr0] <;> rfl
      unfold secv
      rw [if_pos okk, tn_c, tn_c, eg]
    have r0b := hm r0 (List.mem_of_getElem? hr0)
    rw [ev]
    refine c_Seconds_keyIn (X48 := fun v3 v4 hh => hh = h ∧ ∃ j : Nat, v4 = (n : Int) - 1 - j ∧ j ≤ n - 1 - i' ∧ v3 = ((r0 / sp ^ j : Nat) : Int)) ?_ hb0 (fun _ _ => ?_)
    · refine lp_Seconds_keyIn_48 (a1 := (k' : Int)) _ (fun _ v4 _ => (v4 + 10).toNat) ?_
      rintro v3 v4 hh hb1 ⟨ehh, j, rfl, hj, rfl⟩
      subst ehh
      unfold B_Seconds_keyIn_48
      have dl : r0 / sp ^ j ≤ r0 := Nat.div_le_self _ _
      refine ⟨fun q x1 e1 _ _ x2 e2 _ _ => ?_, fun q x5 e5 _ _ => ?_⟩
      · have ex := e1.trans H.1.1
        have ex2 := e2.trans H.1.2.1
        rw [ex, ex2]
        refine ⟨by omega, fun x3 e3 _ _ => ?_⟩
        have ex3 : x3 = ((r0 / sp ^ (n - 1 - i') % sp : Nat) : Int) := by
          rw [e3, show j = n - 1 - i' by omega, Int.natCast_emod]
          exact Int.tmod_eq_emod_of_nonneg (Int.natCast_nonneg _)
        rw [ex3]
        have ml : r0 / sp ^ (n - 1 - i') % sp < sp := Nat.mod_lt _ (by omega)
        exact ⟨⟨by omega, by omega⟩, rfl, hb1, rfl⟩
      · have ex := e5.trans H.1.2.1
        rw [ex]
        refine ⟨by omega, fun x6 e6 _ _ => ⟨⟨by omega, by omega⟩, ⟨rfl, j + 1, by omega, by omega, ?_⟩, by omega⟩⟩
        have dd : ((r0 / sp ^ j : Nat) : Int).tdiv (sp : Int) = ((r0 / sp ^ (j + 1) : Nat) : Int) := by
          rw [Nat.pow_succ, ← Nat.div_div_eq_div_mul]
          exact (Int.tdiv_eq_ediv_of_nonneg (Int.natCast_nonneg _)).trans (Int.natCast_ediv _ _).symm
        have dl2 : r0 / sp ^ (j + 1) ≤ r0 := Nat.div_le_self _ _
        generalize r0 / sp ^ (j + 1) = w at dd dl2 ⊢
        rw [e6, dd, w32_id (by unfold i32; omega)]
    · unfold B_Seconds_keyIn_0 B_Seconds_keyIn_32
      refine ⟨fun q => by omega, fun _ x1 e1 _ _ => ?_⟩
      have ex := e1.trans B.1
      subst ex
      refine ⟨fun q => by omega, fun _ => ⟨fun q => by omega, fun _ x2 e2 _ _ => ?_⟩⟩
      have ex := e2.trans H.1.2.2.1
      subst ex
      refine ⟨fun q => by omega, fun _ x3 e3 _ _ => ?_⟩
      have ex := e3.trans H.1.2.1
      subst ex
      refine ⟨fun _ => ?_, fun q => by omega⟩
      refine con_mono (j_rowAt hb0 B hs hm hr0 (by omega)) ?_
      rintro r h4 ⟨rfl, hb4, rfl⟩
      refine ⟨_, rfl, hb4, fun x7 e7 _ _ => ?_⟩
      have ex := e7.trans H.1.2.2.1
      subst ex
      exact ⟨⟨by omega, by omega⟩, rfl, 0, by omega, Nat.zero_le _, by rw [Nat.pow_zero, Nat.div_one]⟩
  refine con_mono fin ?_
  rintro r h2 ⟨rfl, hb2, rfl⟩
  exact ⟨_, rfl, hb2, rfl, hb2, rfl⟩
theorem t_MD_second {k i : Int} (hb0 : hb s h) (H : PRr low sp n R ln h) (hg : PRg low sp n ln) (hN : sp ^ n ≤ 100000) (hf : h.2.1 170 91 = ((rws (tvF low sp (fP R ln n) (n - 1) [])).length : Int)) : con G 3 0 0 m_MD_second [av_R (some 170), av_I k, av_I i] h (fun r h' => r = some (av_I (secv (rws (tvF low sp (fP R ln n) (n - 1) [])) low sp n k i)) ∧ hb s h' ∧ fr JWth h h') := by
  obtain ⟨⟨g1, g2⟩, g3, ⟨g4, g5⟩, g6⟩ := id hg
  obtain ⟨l, el⟩ : ∃ l, rws (tvF low sp (fP R ln n) (n - 1) []) = l := ⟨_, rfl⟩
  rw [el] at hf ⊢
  have no : ¬ (0 ≤ k ∧ k < (l.length : Int) ∧ 0 ≤ i ∧ i < (n : Int)) → some (av_I (-1)) = some (av_I (secv l low sp n k i)) ∧ hb s h ∧ fr JWth h h := fun q => ⟨by unfold secv; rw [if_neg q], hb0, fr_0⟩
  refine c_MD_second hb0 (fun _ _ => ?_)
  unfold B_MD_second_0 B_MD_second_24
  refine ⟨fun q => no (by omega), fun q1 x1 e1 _ _ => ?_⟩
  have ex := e1.trans hf
  subst ex
  refine ⟨fun q => no (by omega), fun q2 => ⟨fun q => no (by omega), fun q3 x2 e2 _ _ => ?_⟩⟩
  have ex := e2.trans H.1.2.2.1
  subst ex
  refine ⟨fun q4 => ?_, fun q => no (by omega)⟩
  refine con_mono (m_through (k := k) hb0 H hg hN) ?_
  rw [el]
  rintro r h3 ⟨hb3, f3, z, rfl, ⟨p, rfl, p0, pn, K, kr, hr⟩ | ⟨-, w⟩⟩
  rotate_left
  · exact absurd ⟨by omega, by omega⟩ w
  refine ⟨_, rfl, hb3, by omega, fun x7 e7 _ _ => ⟨?_, hb3, f3⟩⟩
  have kg := KLs_g p i.toNat K (by omega)
  have rd := rowL_d g3 p (p.length - 1 - i.toNat) _ kr kg
  rw [pn] at rd
  have eg : l.getD z.toNat 0 = rowL low sp p := by rw [List.getD_eq_getElem?_getD, hr] <;> rfl
  have okk : 0 ≤ z ∧ z < (l.length : Int) ∧ 0 ≤ i ∧ i < (n : Int) := ⟨p0, by omega, by omega, q4⟩
  unfold secv
  rw [if_pos okk, eg, e7, rd, show low + (h3.2.1 230 i.toNat - low) = h3.2.1 230 i.toNat by omega]
end
